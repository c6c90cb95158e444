theorem dX6_init_0 : decode cX6_init 0 = .ok (.aload_n 0, 1) := by decide +kernel
theorem dX6_init_1 : decode cX6_init 1 = .ok (.invokespecial 1, 3) := by decide +kernel
theorem dX6_init_4 : decode cX6_init 4 = .ok (.aload_n 0, 1) := by decide +kernel
theorem dX6_init_5 : decode cX6_init 5 = .ok (.new 7, 3) := by decide +kernel
theorem dX6_init_8 : decode cX6_init 8 = .ok (.dup, 1) := by decide +kernel
theorem dX6_init_9 : decode cX6_init 9 = .ok (.invokespecial 9, 3) := by decide +kernel
theorem dX6_init_12 : decode cX6_init 12 = .ok (.putfield 10, 3) := by decide +kernel
theorem dX6_init_15 : decode cX6_init 15 = .ok (.aload_n 0, 1) := by decide +kernel
theorem dX6_init_16 : decode cX6_init 16 = .ok (.new 16, 3) := by decide +kernel
theorem dX6_init_19 : decode cX6_init 19 = .ok (.dup, 1) := by decide +kernel
theorem dX6_init_20 : decode cX6_init 20 = .ok (.invokespecial 18, 3) := by decide +kernel
theorem dX6_init_23 : decode cX6_init 23 = .ok (.putfield 19, 3) := by decide +kernel
theorem dX6_init_26 : decode cX6_init 26 = .ok (.aload_n 0, 1) := by decide +kernel
theorem dX6_init_27 : decode cX6_init 27 = .ok (.new 16, 3) := by decide +kernel
theorem dX6_init_30 : decode cX6_init 30 = .ok (.dup, 1) := by decide +kernel
theorem dX6_init_31 : decode cX6_init 31 = .ok (.invokespecial 18, 3) := by decide +kernel
theorem dX6_init_34 : decode cX6_init 34 = .ok (.putfield 23, 3) := by decide +kernel
theorem dX6_init_37 : decode cX6_init 37 = .ok (.aload_n 0, 1) := by decide +kernel
theorem dX6_init_38 : decode cX6_init 38 = .ok (.new 26, 3) := by decide +kernel
theorem dX6_init_41 : decode cX6_init 41 = .ok (.dup, 1) := by decide +kernel
theorem dX6_init_42 : decode cX6_init 42 = .ok (.invokespecial 28, 3) := by decide +kernel
theorem dX6_init_45 : decode cX6_init 45 = .ok (.putfield 29, 3) := by decide +kernel
theorem dX6_init_48 : decode cX6_init 48 = .ok (.aload_n 0, 1) := by decide +kernel
theorem dX6_init_49 : decode cX6_init 49 = .ok (.new 33, 3) := by decide +kernel
theorem dX6_init_52 : decode cX6_init 52 = .ok (.dup, 1) := by decide +kernel
theorem dX6_init_53 : decode cX6_init 53 = .ok (.bipush 10, 2) := by decide +kernel
theorem dX6_init_55 : decode cX6_init 55 = .ok (.invokespecial 35, 3) := by decide +kernel
theorem dX6_init_58 : decode cX6_init 58 = .ok (.putfield 38, 3) := by decide +kernel
theorem dX6_init_61 : decode cX6_init 61 = .ok (.aload_n 0, 1) := by decide +kernel
theorem dX6_init_62 : decode cX6_init 62 = .ok (.new 33, 3) := by decide +kernel
theorem dX6_init_65 : decode cX6_init 65 = .ok (.dup, 1) := by decide +kernel
theorem dX6_init_66 : decode cX6_init 66 = .ok (.iconst 2, 1) := by decide +kernel
theorem dX6_init_67 : decode cX6_init 67 = .ok (.invokespecial 35, 3) := by decide +kernel
theorem dX6_init_70 : decode cX6_init 70 = .ok (.putfield 42, 3) := by decide +kernel
theorem dX6_init_73 : decode cX6_init 73 = .ok (.aload_n 0, 1) := by decide +kernel
theorem dX6_init_74 : decode cX6_init 74 = .ok (.iconst 2, 1) := by decide +kernel
theorem dX6_init_75 : decode cX6_init 75 = .ok (.newarray .boolean, 2) := by decide +kernel
theorem dX6_init_77 : decode cX6_init 77 = .ok (.putfield 45, 3) := by decide +kernel
theorem dX6_init_80 : decode cX6_init 80 = .ok (.aload_n 0, 1) := by decide +kernel
theorem dX6_init_81 : decode cX6_init 81 = .ok (.iconst 5, 1) := by decide +kernel
theorem dX6_init_82 : decode cX6_init 82 = .ok (.newarray .int, 2) := by decide +kernel
theorem dX6_init_84 : decode cX6_init 84 = .ok (.putfield 49, 3) := by decide +kernel
theorem dX6_init_87 : decode cX6_init 87 = .ok (.aload_n 0, 1) := by decide +kernel
theorem dX6_init_88 : decode cX6_init 88 = .ok (.iconst 5, 1) := by decide +kernel
theorem dX6_init_89 : decode cX6_init 89 = .ok (.newarray .int, 2) := by decide +kernel
theorem dX6_init_91 : decode cX6_init 91 = .ok (.putfield 53, 3) := by decide +kernel
theorem dX6_init_94 : decode cX6_init 94 = .ok (.aload_n 0, 1) := by decide +kernel
theorem dX6_init_95 : decode cX6_init 95 = .ok (.iconst 5, 1) := by decide +kernel
theorem dX6_init_96 : decode cX6_init 96 = .ok (.newarray .int, 2) := by decide +kernel
theorem dX6_init_98 : decode cX6_init 98 = .ok (.putfield 56, 3) := by decide +kernel
theorem dX6_init_101 : decode cX6_init 101 = .ok (.aload_n 0, 1) := by decide +kernel
theorem dX6_init_102 : decode cX6_init 102 = .ok (.new 59, 3) := by decide +kernel
theorem dX6_init_105 : decode cX6_init 105 = .ok (.dup, 1) := by decide +kernel
theorem dX6_init_106 : decode cX6_init 106 = .ok (.invokespecial 61, 3) := by decide +kernel
theorem dX6_init_109 : decode cX6_init 109 = .ok (.putfield 62, 3) := by decide +kernel
theorem dX6_init_112 : decode cX6_init 112 = .ok (.aload_n 0, 1) := by decide +kernel
theorem dX6_init_113 : decode cX6_init 113 = .ok (.new 66, 3) := by decide +kernel
theorem dX6_init_116 : decode cX6_init 116 = .ok (.dup, 1) := by decide +kernel
theorem dX6_init_117 : decode cX6_init 117 = .ok (.invokespecial 68, 3) := by decide +kernel
theorem dX6_init_120 : decode cX6_init 120 = .ok (.putfield 69, 3) := by decide +kernel
theorem dX6_init_123 : decode cX6_init 123 = .ok (.aload_n 0, 1) := by decide +kernel
theorem dX6_init_124 : decode cX6_init 124 = .ok (.invokevirtual 73, 3) := by decide +kernel
theorem dX6_init_127 : decode cX6_init 127 = .ok (.return_, 1) := by decide +kernel
theorem dX6_type_0 : decode cX6_type 0 = .ok (.iload_n 1, 1) := by decide +kernel
theorem dX6_type_1 : decode cX6_type 1 = .ok (.ifCond .lt 10, 3) := by decide +kernel
theorem dX6_type_4 : decode cX6_type 4 = .ok (.iload_n 1, 1) := by decide +kernel
theorem dX6_type_5 : decode cX6_type 5 = .ok (.sipush 255, 3) := by decide +kernel
theorem dX6_type_8 : decode cX6_type 8 = .ok (.if_icmp .le 5, 3) := by decide +kernel
theorem dX6_type_11 : decode cX6_type 11 = .ok (.iconst (-1), 1) := by decide +kernel
theorem dX6_type_12 : decode cX6_type 12 = .ok (.ireturn, 1) := by decide +kernel
theorem dX6_type_13 : decode cX6_type 13 = .ok (.aload_n 0, 1) := by decide +kernel
theorem dX6_type_14 : decode cX6_type 14 = .ok (.getfield 10, 3) := by decide +kernel
theorem dX6_type_17 : decode cX6_type 17 = .ok (.iload_n 1, 1) := by decide +kernel
theorem dX6_type_18 : decode cX6_type 18 = .ok (.i2c, 1) := by decide +kernel
theorem dX6_type_19 : decode cX6_type 19 = .ok (.invokevirtual 76, 3) := by decide +kernel
theorem dX6_type_22 : decode cX6_type 22 = .ok (.ifCond .eq 13, 3) := by decide +kernel
theorem dX6_type_25 : decode cX6_type 25 = .ok (.aload_n 0, 1) := by decide +kernel
theorem dX6_type_26 : decode cX6_type 26 = .ok (.getfield 10, 3) := by decide +kernel
theorem dX6_type_29 : decode cX6_type 29 = .ok (.invokevirtual 80, 3) := by decide +kernel
theorem dX6_type_32 : decode cX6_type 32 = .ok (.goto 5, 3) := by decide +kernel
theorem dX6_type_35 : decode cX6_type 35 = .ok (.bipush (-3), 2) := by decide +kernel
theorem dX6_type_37 : decode cX6_type 37 = .ok (.ireturn, 1) := by decide +kernel
theorem dX6_clear_0 : decode cX6_clear 0 = .ok (.aload_n 0, 1) := by decide +kernel
theorem dX6_clear_1 : decode cX6_clear 1 = .ok (.getfield 10, 3) := by decide +kernel
theorem dX6_clear_4 : decode cX6_clear 4 = .ok (.invokevirtual 80, 3) := by decide +kernel
theorem dX6_clear_7 : decode cX6_clear 7 = .ok (.istore_n 1, 1) := by decide +kernel
theorem dX6_clear_8 : decode cX6_clear 8 = .ok (.aload_n 0, 1) := by decide +kernel
theorem dX6_clear_9 : decode cX6_clear 9 = .ok (.getfield 10, 3) := by decide +kernel
theorem dX6_clear_12 : decode cX6_clear 12 = .ok (.invokevirtual 84, 3) := by decide +kernel
theorem dX6_clear_15 : decode cX6_clear 15 = .ok (.iload_n 1, 1) := by decide +kernel
theorem dX6_clear_16 : decode cX6_clear 16 = .ok (.ireturn, 1) := by decide +kernel
theorem dX6_yard_0 : decode cX6_yard 0 = .ok (.aload_n 0, 1) := by decide +kernel
theorem dX6_yard_1 : decode cX6_yard 1 = .ok (.getfield 23, 3) := by decide +kernel
theorem dX6_yard_4 : decode cX6_yard 4 = .ok (.aload_n 0, 1) := by decide +kernel
theorem dX6_yard_5 : decode cX6_yard 5 = .ok (.getfield 10, 3) := by decide +kernel
theorem dX6_yard_8 : decode cX6_yard 8 = .ok (.invokevirtual 87, 3) := by decide +kernel
theorem dX6_yard_11 : decode cX6_yard 11 = .ok (.istore_n 1, 1) := by decide +kernel
theorem dX6_yard_12 : decode cX6_yard 12 = .ok (.iload_n 1, 1) := by decide +kernel
theorem dX6_yard_13 : decode cX6_yard 13 = .ok (.ifCond .ge 5, 3) := by decide +kernel
theorem dX6_yard_16 : decode cX6_yard 16 = .ok (.iload_n 1, 1) := by decide +kernel
theorem dX6_yard_17 : decode cX6_yard 17 = .ok (.ireturn, 1) := by decide +kernel
theorem dX6_yard_18 : decode cX6_yard 18 = .ok (.aload_n 0, 1) := by decide +kernel
theorem dX6_yard_19 : decode cX6_yard 19 = .ok (.getfield 19, 3) := by decide +kernel
theorem dX6_yard_22 : decode cX6_yard 22 = .ok (.astore_n 2, 1) := by decide +kernel
theorem dX6_yard_23 : decode cX6_yard 23 = .ok (.aload_n 0, 1) := by decide +kernel
theorem dX6_yard_24 : decode cX6_yard 24 = .ok (.aload_n 0, 1) := by decide +kernel
theorem dX6_yard_25 : decode cX6_yard 25 = .ok (.getfield 23, 3) := by decide +kernel
theorem dX6_yard_28 : decode cX6_yard 28 = .ok (.putfield 19, 3) := by decide +kernel
theorem dX6_yard_31 : decode cX6_yard 31 = .ok (.aload_n 0, 1) := by decide +kernel
theorem dX6_yard_32 : decode cX6_yard 32 = .ok (.aload_n 2, 1) := by decide +kernel
theorem dX6_yard_33 : decode cX6_yard 33 = .ok (.putfield 23, 3) := by decide +kernel
theorem dX6_yard_36 : decode cX6_yard 36 = .ok (.aload_n 0, 1) := by decide +kernel
theorem dX6_yard_37 : decode cX6_yard 37 = .ok (.getfield 10, 3) := by decide +kernel
theorem dX6_yard_40 : decode cX6_yard 40 = .ok (.invokevirtual 84, 3) := by decide +kernel
theorem dX6_yard_43 : decode cX6_yard 43 = .ok (.aload_n 0, 1) := by decide +kernel
theorem dX6_yard_44 : decode cX6_yard 44 = .ok (.invokevirtual 73, 3) := by decide +kernel
theorem dX6_yard_47 : decode cX6_yard 47 = .ok (.iload_n 1, 1) := by decide +kernel
theorem dX6_yard_48 : decode cX6_yard 48 = .ok (.ireturn, 1) := by decide +kernel
theorem dX6_part_0 : decode cX6_part 0 = .ok (.aload_n 0, 1) := by decide +kernel
theorem dX6_part_1 : decode cX6_part 1 = .ok (.iload_n 1, 1) := by decide +kernel
theorem dX6_part_2 : decode cX6_part 2 = .ok (.invokevirtual 91, 3) := by decide +kernel
theorem dX6_part_5 : decode cX6_part 5 = .ok (.ifCond .ne 5, 3) := by decide +kernel
theorem dX6_part_8 : decode cX6_part 8 = .ok (.iconst (-1), 1) := by decide +kernel
theorem dX6_part_9 : decode cX6_part 9 = .ok (.ireturn, 1) := by decide +kernel
theorem dX6_part_10 : decode cX6_part 10 = .ok (.iload_n 2, 1) := by decide +kernel
theorem dX6_part_11 : decode cX6_part 11 = .ok (.tableswitch 50 0 2 #[25, 35, 44], 25) := by decide +kernel
theorem dX6_part_36 : decode cX6_part 36 = .ok (.aload_n 0, 1) := by decide +kernel
theorem dX6_part_37 : decode cX6_part 37 = .ok (.getfield 19, 3) := by decide +kernel
theorem dX6_part_40 : decode cX6_part 40 = .ok (.iconst 0, 1) := by decide +kernel
theorem dX6_part_41 : decode cX6_part 41 = .ok (.iload_n 1, 1) := by decide +kernel
theorem dX6_part_42 : decode cX6_part 42 = .ok (.invokevirtual 95, 3) := by decide +kernel
theorem dX6_part_45 : decode cX6_part 45 = .ok (.ireturn, 1) := by decide +kernel
theorem dX6_part_46 : decode cX6_part 46 = .ok (.aload_n 0, 1) := by decide +kernel
theorem dX6_part_47 : decode cX6_part 47 = .ok (.getfield 29, 3) := by decide +kernel
theorem dX6_part_50 : decode cX6_part 50 = .ok (.iload_n 1, 1) := by decide +kernel
theorem dX6_part_51 : decode cX6_part 51 = .ok (.invokevirtual 99, 3) := by decide +kernel
theorem dX6_part_54 : decode cX6_part 54 = .ok (.ireturn, 1) := by decide +kernel
theorem dX6_part_55 : decode cX6_part 55 = .ok (.aload_n 0, 1) := by decide +kernel
theorem dX6_part_56 : decode cX6_part 56 = .ok (.iload_n 1, 1) := by decide +kernel
theorem dX6_part_57 : decode cX6_part 57 = .ok (.invokevirtual 103, 3) := by decide +kernel
theorem dX6_part_60 : decode cX6_part 60 = .ok (.ireturn, 1) := by decide +kernel
theorem dX6_part_61 : decode cX6_part 61 = .ok (.iconst (-1), 1) := by decide +kernel
theorem dX6_part_62 : decode cX6_part 62 = .ok (.ireturn, 1) := by decide +kernel
theorem dX6_order_0 : decode cX6_order 0 = .ok (.aload_n 0, 1) := by decide +kernel
theorem dX6_order_1 : decode cX6_order 1 = .ok (.iload_n 1, 1) := by decide +kernel
theorem dX6_order_2 : decode cX6_order 2 = .ok (.invokevirtual 106, 3) := by decide +kernel
theorem dX6_order_5 : decode cX6_order 5 = .ok (.ifCond .ne 5, 3) := by decide +kernel
theorem dX6_order_8 : decode cX6_order 8 = .ok (.iconst (-1), 1) := by decide +kernel
theorem dX6_order_9 : decode cX6_order 9 = .ok (.ireturn, 1) := by decide +kernel
theorem dX6_order_10 : decode cX6_order 10 = .ok (.iload_n 2, 1) := by decide +kernel
theorem dX6_order_11 : decode cX6_order 11 = .ok (.tableswitch 76 0 3 #[29, 39, 49, 59], 29) := by decide +kernel
theorem dX6_order_40 : decode cX6_order 40 = .ok (.aload_n 0, 1) := by decide +kernel
theorem dX6_order_41 : decode cX6_order 41 = .ok (.getfield 19, 3) := by decide +kernel
theorem dX6_order_44 : decode cX6_order 44 = .ok (.iconst 2, 1) := by decide +kernel
theorem dX6_order_45 : decode cX6_order 45 = .ok (.iload_n 1, 1) := by decide +kernel
theorem dX6_order_46 : decode cX6_order 46 = .ok (.invokevirtual 95, 3) := by decide +kernel
theorem dX6_order_49 : decode cX6_order 49 = .ok (.ireturn, 1) := by decide +kernel
theorem dX6_order_50 : decode cX6_order 50 = .ok (.aload_n 0, 1) := by decide +kernel
theorem dX6_order_51 : decode cX6_order 51 = .ok (.getfield 19, 3) := by decide +kernel
theorem dX6_order_54 : decode cX6_order 54 = .ok (.iconst 3, 1) := by decide +kernel
theorem dX6_order_55 : decode cX6_order 55 = .ok (.iload_n 1, 1) := by decide +kernel
theorem dX6_order_56 : decode cX6_order 56 = .ok (.invokevirtual 95, 3) := by decide +kernel
theorem dX6_order_59 : decode cX6_order 59 = .ok (.ireturn, 1) := by decide +kernel
theorem dX6_order_60 : decode cX6_order 60 = .ok (.aload_n 0, 1) := by decide +kernel
theorem dX6_order_61 : decode cX6_order 61 = .ok (.getfield 19, 3) := by decide +kernel
theorem dX6_order_64 : decode cX6_order 64 = .ok (.iconst 4, 1) := by decide +kernel
theorem dX6_order_65 : decode cX6_order 65 = .ok (.iload_n 1, 1) := by decide +kernel
theorem dX6_order_66 : decode cX6_order 66 = .ok (.invokevirtual 95, 3) := by decide +kernel
theorem dX6_order_69 : decode cX6_order 69 = .ok (.ireturn, 1) := by decide +kernel
theorem dX6_order_70 : decode cX6_order 70 = .ok (.aload_n 0, 1) := by decide +kernel
theorem dX6_order_71 : decode cX6_order 71 = .ok (.getfield 29, 3) := by decide +kernel
theorem dX6_order_74 : decode cX6_order 74 = .ok (.iload_n 1, 1) := by decide +kernel
theorem dX6_order_75 : decode cX6_order 75 = .ok (.invokevirtual 109, 3) := by decide +kernel
theorem dX6_order_78 : decode cX6_order 78 = .ok (.ifCond .eq 7, 3) := by decide +kernel
theorem dX6_order_81 : decode cX6_order 81 = .ok (.iconst 1, 1) := by decide +kernel
theorem dX6_order_82 : decode cX6_order 82 = .ok (.goto 4, 3) := by decide +kernel
theorem dX6_order_85 : decode cX6_order 85 = .ok (.iconst 0, 1) := by decide +kernel
theorem dX6_order_86 : decode cX6_order 86 = .ok (.ireturn, 1) := by decide +kernel
theorem dX6_order_87 : decode cX6_order 87 = .ok (.iconst (-1), 1) := by decide +kernel
theorem dX6_order_88 : decode cX6_order 88 = .ok (.ireturn, 1) := by decide +kernel
theorem dX6_side_0 : decode cX6_side 0 = .ok (.iload_n 1, 1) := by decide +kernel
theorem dX6_side_1 : decode cX6_side 1 = .ok (.invokestatic 112, 3) := by decide +kernel
theorem dX6_side_4 : decode cX6_side 4 = .ok (.ifCond .eq 17, 3) := by decide +kernel
theorem dX6_side_7 : decode cX6_side 7 = .ok (.aload_n 0, 1) := by decide +kernel
theorem dX6_side_8 : decode cX6_side 8 = .ok (.getfield 29, 3) := by decide +kernel
theorem dX6_side_11 : decode cX6_side 11 = .ok (.getfield 115, 3) := by decide +kernel
theorem dX6_side_14 : decode cX6_side 14 = .ok (.iload_n 1, 1) := by decide +kernel
theorem dX6_side_15 : decode cX6_side 15 = .ok (.invokevirtual 118, 3) := by decide +kernel
theorem dX6_side_18 : decode cX6_side 18 = .ok (.goto 4, 3) := by decide +kernel
theorem dX6_side_21 : decode cX6_side 21 = .ok (.iconst (-1), 1) := by decide +kernel
theorem dX6_side_22 : decode cX6_side 22 = .ok (.ireturn, 1) := by decide +kernel
theorem dX6_now_0 : decode cX6_now 0 = .ok (.iload_n 1, 1) := by decide +kernel
theorem dX6_now_1 : decode cX6_now 1 = .ok (.tableswitch 111 0 7 #[47, 55, 63, 71, 79, 87, 95, 106], 47) := by decide +kernel
theorem dX6_now_48 : decode cX6_now 48 = .ok (.aload_n 0, 1) := by decide +kernel
theorem dX6_now_49 : decode cX6_now 49 = .ok (.getfield 29, 3) := by decide +kernel
theorem dX6_now_52 : decode cX6_now 52 = .ok (.getfield 121, 3) := by decide +kernel
theorem dX6_now_55 : decode cX6_now 55 = .ok (.ireturn, 1) := by decide +kernel
theorem dX6_now_56 : decode cX6_now 56 = .ok (.aload_n 0, 1) := by decide +kernel
theorem dX6_now_57 : decode cX6_now 57 = .ok (.getfield 29, 3) := by decide +kernel
theorem dX6_now_60 : decode cX6_now 60 = .ok (.getfield 125, 3) := by decide +kernel
theorem dX6_now_63 : decode cX6_now 63 = .ok (.ireturn, 1) := by decide +kernel
theorem dX6_now_64 : decode cX6_now 64 = .ok (.aload_n 0, 1) := by decide +kernel
theorem dX6_now_65 : decode cX6_now 65 = .ok (.getfield 29, 3) := by decide +kernel
theorem dX6_now_68 : decode cX6_now 68 = .ok (.getfield 128, 3) := by decide +kernel
theorem dX6_now_71 : decode cX6_now 71 = .ok (.ireturn, 1) := by decide +kernel
theorem dX6_now_72 : decode cX6_now 72 = .ok (.aload_n 0, 1) := by decide +kernel
theorem dX6_now_73 : decode cX6_now 73 = .ok (.getfield 29, 3) := by decide +kernel
theorem dX6_now_76 : decode cX6_now 76 = .ok (.getfield 131, 3) := by decide +kernel
theorem dX6_now_79 : decode cX6_now 79 = .ok (.ireturn, 1) := by decide +kernel
theorem dX6_now_80 : decode cX6_now 80 = .ok (.aload_n 0, 1) := by decide +kernel
theorem dX6_now_81 : decode cX6_now 81 = .ok (.getfield 29, 3) := by decide +kernel
theorem dX6_now_84 : decode cX6_now 84 = .ok (.getfield 134, 3) := by decide +kernel
theorem dX6_now_87 : decode cX6_now 87 = .ok (.ireturn, 1) := by decide +kernel
theorem dX6_now_88 : decode cX6_now 88 = .ok (.aload_n 0, 1) := by decide +kernel
theorem dX6_now_89 : decode cX6_now 89 = .ok (.getfield 29, 3) := by decide +kernel
theorem dX6_now_92 : decode cX6_now 92 = .ok (.getfield 137, 3) := by decide +kernel
theorem dX6_now_95 : decode cX6_now 95 = .ok (.ireturn, 1) := by decide +kernel
theorem dX6_now_96 : decode cX6_now 96 = .ok (.aload_n 0, 1) := by decide +kernel
theorem dX6_now_97 : decode cX6_now 97 = .ok (.getfield 29, 3) := by decide +kernel
theorem dX6_now_100 : decode cX6_now 100 = .ok (.getfield 115, 3) := by decide +kernel
theorem dX6_now_103 : decode cX6_now 103 = .ok (.getfield 140, 3) := by decide +kernel
theorem dX6_now_106 : decode cX6_now 106 = .ok (.ireturn, 1) := by decide +kernel
theorem dX6_now_107 : decode cX6_now 107 = .ok (.aload_n 0, 1) := by decide +kernel
theorem dX6_now_108 : decode cX6_now 108 = .ok (.getfield 143, 3) := by decide +kernel
theorem dX6_now_111 : decode cX6_now 111 = .ok (.ireturn, 1) := by decide +kernel
theorem dX6_now_112 : decode cX6_now 112 = .ok (.iconst (-1), 1) := by decide +kernel
theorem dX6_now_113 : decode cX6_now 113 = .ok (.ireturn, 1) := by decide +kernel
theorem dX6_cuts_0 : decode cX6_cuts 0 = .ok (.aload_n 0, 1) := by decide +kernel
theorem dX6_cuts_1 : decode cX6_cuts 1 = .ok (.iload_n 1, 1) := by decide +kernel
theorem dX6_cuts_2 : decode cX6_cuts 2 = .ok (.invokevirtual 91, 3) := by decide +kernel
theorem dX6_cuts_5 : decode cX6_cuts 5 = .ok (.ifCond .ne 5, 3) := by decide +kernel
theorem dX6_cuts_8 : decode cX6_cuts 8 = .ok (.iconst (-1), 1) := by decide +kernel
theorem dX6_cuts_9 : decode cX6_cuts 9 = .ok (.ireturn, 1) := by decide +kernel
theorem dX6_cuts_10 : decode cX6_cuts 10 = .ok (.aload_n 0, 1) := by decide +kernel
theorem dX6_cuts_11 : decode cX6_cuts 11 = .ok (.invokevirtual 146, 3) := by decide +kernel
theorem dX6_cuts_14 : decode cX6_cuts 14 = .ok (.aload_n 0, 1) := by decide +kernel
theorem dX6_cuts_15 : decode cX6_cuts 15 = .ok (.iload_n 1, 1) := by decide +kernel
theorem dX6_cuts_16 : decode cX6_cuts 16 = .ok (.invokevirtual 103, 3) := by decide +kernel
theorem dX6_cuts_19 : decode cX6_cuts 19 = .ok (.istore_n 2, 1) := by decide +kernel
theorem dX6_cuts_20 : decode cX6_cuts 20 = .ok (.aload_n 0, 1) := by decide +kernel
theorem dX6_cuts_21 : decode cX6_cuts 21 = .ok (.getfield 29, 3) := by decide +kernel
theorem dX6_cuts_24 : decode cX6_cuts 24 = .ok (.dup, 1) := by decide +kernel
theorem dX6_cuts_25 : decode cX6_cuts 25 = .ok (.getfield 128, 3) := by decide +kernel
theorem dX6_cuts_28 : decode cX6_cuts 28 = .ok (.iload_n 2, 1) := by decide +kernel
theorem dX6_cuts_29 : decode cX6_cuts 29 = .ok (.iadd, 1) := by decide +kernel
theorem dX6_cuts_30 : decode cX6_cuts 30 = .ok (.putfield 128, 3) := by decide +kernel
theorem dX6_cuts_33 : decode cX6_cuts 33 = .ok (.aload_n 0, 1) := by decide +kernel
theorem dX6_cuts_34 : decode cX6_cuts 34 = .ok (.getfield 29, 3) := by decide +kernel
theorem dX6_cuts_37 : decode cX6_cuts 37 = .ok (.iload_n 1, 1) := by decide +kernel
theorem dX6_cuts_38 : decode cX6_cuts 38 = .ok (.invokevirtual 149, 3) := by decide +kernel
theorem dX6_cuts_41 : decode cX6_cuts 41 = .ok (.iload_n 2, 1) := by decide +kernel
theorem dX6_cuts_42 : decode cX6_cuts 42 = .ok (.ireturn, 1) := by decide +kernel
theorem dX6_year_0 : decode cX6_year 0 = .ok (.aload_n 0, 1) := by decide +kernel
theorem dX6_year_1 : decode cX6_year 1 = .ok (.getfield 29, 3) := by decide +kernel
theorem dX6_year_4 : decode cX6_year 4 = .ok (.getfield 125, 3) := by decide +kernel
theorem dX6_year_7 : decode cX6_year 7 = .ok (.sipush 999, 3) := by decide +kernel
theorem dX6_year_10 : decode cX6_year 10 = .ok (.if_icmp .lt 6, 3) := by decide +kernel
theorem dX6_year_13 : decode cX6_year 13 = .ok (.bipush (-2), 2) := by decide +kernel
theorem dX6_year_15 : decode cX6_year 15 = .ok (.ireturn, 1) := by decide +kernel
theorem dX6_year_16 : decode cX6_year 16 = .ok (.aload_n 0, 1) := by decide +kernel
theorem dX6_year_17 : decode cX6_year 17 = .ok (.invokevirtual 146, 3) := by decide +kernel
theorem dX6_year_20 : decode cX6_year 20 = .ok (.aload_n 0, 1) := by decide +kernel
theorem dX6_year_21 : decode cX6_year 21 = .ok (.getfield 29, 3) := by decide +kernel
theorem dX6_year_24 : decode cX6_year 24 = .ok (.dup, 1) := by decide +kernel
theorem dX6_year_25 : decode cX6_year 25 = .ok (.getfield 125, 3) := by decide +kernel
theorem dX6_year_28 : decode cX6_year 28 = .ok (.iconst 1, 1) := by decide +kernel
theorem dX6_year_29 : decode cX6_year 29 = .ok (.iadd, 1) := by decide +kernel
theorem dX6_year_30 : decode cX6_year 30 = .ok (.putfield 125, 3) := by decide +kernel
theorem dX6_year_33 : decode cX6_year 33 = .ok (.aload_n 0, 1) := by decide +kernel
theorem dX6_year_34 : decode cX6_year 34 = .ok (.getfield 29, 3) := by decide +kernel
theorem dX6_year_37 : decode cX6_year 37 = .ok (.invokevirtual 152, 3) := by decide +kernel
theorem dX6_year_40 : decode cX6_year 40 = .ok (.aload_n 0, 1) := by decide +kernel
theorem dX6_year_41 : decode cX6_year 41 = .ok (.getfield 29, 3) := by decide +kernel
theorem dX6_year_44 : decode cX6_year 44 = .ok (.getfield 125, 3) := by decide +kernel
theorem dX6_year_47 : decode cX6_year 47 = .ok (.ireturn, 1) := by decide +kernel
theorem dX6_binds_0 : decode cX6_binds 0 = .ok (.iload_n 1, 1) := by decide +kernel
theorem dX6_binds_1 : decode cX6_binds 1 = .ok (.iconst 1, 1) := by decide +kernel
theorem dX6_binds_2 : decode cX6_binds 2 = .ok (.if_icmp .lt 9, 3) := by decide +kernel
theorem dX6_binds_5 : decode cX6_binds 5 = .ok (.iload_n 1, 1) := by decide +kernel
theorem dX6_binds_6 : decode cX6_binds 6 = .ok (.bipush 99, 2) := by decide +kernel
theorem dX6_binds_8 : decode cX6_binds 8 = .ok (.if_icmp .le 5, 3) := by decide +kernel
theorem dX6_binds_11 : decode cX6_binds 11 = .ok (.iconst (-1), 1) := by decide +kernel
theorem dX6_binds_12 : decode cX6_binds 12 = .ok (.ireturn, 1) := by decide +kernel
theorem dX6_binds_13 : decode cX6_binds 13 = .ok (.iload_n 1, 1) := by decide +kernel
theorem dX6_binds_14 : decode cX6_binds 14 = .ok (.aload_n 0, 1) := by decide +kernel
theorem dX6_binds_15 : decode cX6_binds 15 = .ok (.getfield 19, 3) := by decide +kernel
theorem dX6_binds_18 : decode cX6_binds 18 = .ok (.invokevirtual 155, 3) := by decide +kernel
theorem dX6_binds_21 : decode cX6_binds 21 = .ok (.imul, 1) := by decide +kernel
theorem dX6_binds_22 : decode cX6_binds 22 = .ok (.istore_n 2, 1) := by decide +kernel
theorem dX6_binds_23 : decode cX6_binds 23 = .ok (.aload_n 0, 1) := by decide +kernel
theorem dX6_binds_24 : decode cX6_binds 24 = .ok (.getfield 29, 3) := by decide +kernel
theorem dX6_binds_27 : decode cX6_binds 27 = .ok (.getfield 121, 3) := by decide +kernel
theorem dX6_binds_30 : decode cX6_binds 30 = .ok (.iload_n 1, 1) := by decide +kernel
theorem dX6_binds_31 : decode cX6_binds 31 = .ok (.aload_n 0, 1) := by decide +kernel
theorem dX6_binds_32 : decode cX6_binds 32 = .ok (.getfield 19, 3) := by decide +kernel
theorem dX6_binds_35 : decode cX6_binds 35 = .ok (.invokevirtual 158, 3) := by decide +kernel
theorem dX6_binds_38 : decode cX6_binds 38 = .ok (.invokestatic 161, 3) := by decide +kernel
theorem dX6_binds_41 : decode cX6_binds 41 = .ok (.iadd, 1) := by decide +kernel
theorem dX6_binds_42 : decode cX6_binds 42 = .ok (.istore_n 3, 1) := by decide +kernel
theorem dX6_binds_43 : decode cX6_binds 43 = .ok (.iload_n 2, 1) := by decide +kernel
theorem dX6_binds_44 : decode cX6_binds 44 = .ok (.aload_n 0, 1) := by decide +kernel
theorem dX6_binds_45 : decode cX6_binds 45 = .ok (.getfield 29, 3) := by decide +kernel
theorem dX6_binds_48 : decode cX6_binds 48 = .ok (.getfield 128, 3) := by decide +kernel
theorem dX6_binds_51 : decode cX6_binds 51 = .ok (.if_icmp .gt 10, 3) := by decide +kernel
theorem dX6_binds_54 : decode cX6_binds 54 = .ok (.iload_n 3, 1) := by decide +kernel
theorem dX6_binds_55 : decode cX6_binds 55 = .ok (.sipush 9999, 3) := by decide +kernel
theorem dX6_binds_58 : decode cX6_binds 58 = .ok (.if_icmp .le 6, 3) := by decide +kernel
theorem dX6_binds_61 : decode cX6_binds 61 = .ok (.bipush (-2), 2) := by decide +kernel
theorem dX6_binds_63 : decode cX6_binds 63 = .ok (.ireturn, 1) := by decide +kernel
theorem dX6_binds_64 : decode cX6_binds 64 = .ok (.aload_n 0, 1) := by decide +kernel
theorem dX6_binds_65 : decode cX6_binds 65 = .ok (.invokevirtual 146, 3) := by decide +kernel
theorem dX6_binds_68 : decode cX6_binds 68 = .ok (.aload_n 0, 1) := by decide +kernel
theorem dX6_binds_69 : decode cX6_binds 69 = .ok (.getfield 29, 3) := by decide +kernel
theorem dX6_binds_72 : decode cX6_binds 72 = .ok (.dup, 1) := by decide +kernel
theorem dX6_binds_73 : decode cX6_binds 73 = .ok (.getfield 128, 3) := by decide +kernel
theorem dX6_binds_76 : decode cX6_binds 76 = .ok (.iload_n 2, 1) := by decide +kernel
theorem dX6_binds_77 : decode cX6_binds 77 = .ok (.isub, 1) := by decide +kernel
theorem dX6_binds_78 : decode cX6_binds 78 = .ok (.putfield 128, 3) := by decide +kernel
theorem dX6_binds_81 : decode cX6_binds 81 = .ok (.aload_n 0, 1) := by decide +kernel
theorem dX6_binds_82 : decode cX6_binds 82 = .ok (.getfield 29, 3) := by decide +kernel
theorem dX6_binds_85 : decode cX6_binds 85 = .ok (.dup, 1) := by decide +kernel
theorem dX6_binds_86 : decode cX6_binds 86 = .ok (.getfield 131, 3) := by decide +kernel
theorem dX6_binds_89 : decode cX6_binds 89 = .ok (.iload_n 1, 1) := by decide +kernel
theorem dX6_binds_90 : decode cX6_binds 90 = .ok (.iadd, 1) := by decide +kernel
theorem dX6_binds_91 : decode cX6_binds 91 = .ok (.putfield 131, 3) := by decide +kernel
theorem dX6_binds_94 : decode cX6_binds 94 = .ok (.aload_n 0, 1) := by decide +kernel
theorem dX6_binds_95 : decode cX6_binds 95 = .ok (.getfield 29, 3) := by decide +kernel
theorem dX6_binds_98 : decode cX6_binds 98 = .ok (.iload_n 3, 1) := by decide +kernel
theorem dX6_binds_99 : decode cX6_binds 99 = .ok (.putfield 121, 3) := by decide +kernel
theorem dX6_binds_102 : decode cX6_binds 102 = .ok (.iload_n 3, 1) := by decide +kernel
theorem dX6_binds_103 : decode cX6_binds 103 = .ok (.ireturn, 1) := by decide +kernel
theorem dX6_sends_0 : decode cX6_sends 0 = .ok (.aload_n 0, 1) := by decide +kernel
theorem dX6_sends_1 : decode cX6_sends 1 = .ok (.iload_n 1, 1) := by decide +kernel
theorem dX6_sends_2 : decode cX6_sends 2 = .ok (.invokevirtual 106, 3) := by decide +kernel
theorem dX6_sends_5 : decode cX6_sends 5 = .ok (.ifCond .ne 5, 3) := by decide +kernel
theorem dX6_sends_8 : decode cX6_sends 8 = .ok (.iconst (-1), 1) := by decide +kernel
theorem dX6_sends_9 : decode cX6_sends 9 = .ok (.ireturn, 1) := by decide +kernel
theorem dX6_sends_10 : decode cX6_sends 10 = .ok (.aload_n 0, 1) := by decide +kernel
theorem dX6_sends_11 : decode cX6_sends 11 = .ok (.getfield 19, 3) := by decide +kernel
theorem dX6_sends_14 : decode cX6_sends 14 = .ok (.iconst 3, 1) := by decide +kernel
theorem dX6_sends_15 : decode cX6_sends 15 = .ok (.iload_n 1, 1) := by decide +kernel
theorem dX6_sends_16 : decode cX6_sends 16 = .ok (.invokevirtual 95, 3) := by decide +kernel
theorem dX6_sends_19 : decode cX6_sends 19 = .ok (.istore_n 2, 1) := by decide +kernel
theorem dX6_sends_20 : decode cX6_sends 20 = .ok (.aload_n 0, 1) := by decide +kernel
theorem dX6_sends_21 : decode cX6_sends 21 = .ok (.getfield 29, 3) := by decide +kernel
theorem dX6_sends_24 : decode cX6_sends 24 = .ok (.iload_n 1, 1) := by decide +kernel
theorem dX6_sends_25 : decode cX6_sends 25 = .ok (.invokevirtual 109, 3) := by decide +kernel
theorem dX6_sends_28 : decode cX6_sends 28 = .ok (.ifCond .ne 22, 3) := by decide +kernel
theorem dX6_sends_31 : decode cX6_sends 31 = .ok (.iload_n 2, 1) := by decide +kernel
theorem dX6_sends_32 : decode cX6_sends 32 = .ok (.aload_n 0, 1) := by decide +kernel
theorem dX6_sends_33 : decode cX6_sends 33 = .ok (.getfield 29, 3) := by decide +kernel
theorem dX6_sends_36 : decode cX6_sends 36 = .ok (.getfield 131, 3) := by decide +kernel
theorem dX6_sends_39 : decode cX6_sends 39 = .ok (.if_icmp .gt 11, 3) := by decide +kernel
theorem dX6_sends_42 : decode cX6_sends 42 = .ok (.aload_n 0, 1) := by decide +kernel
theorem dX6_sends_43 : decode cX6_sends 43 = .ok (.iload_n 1, 1) := by decide +kernel
theorem dX6_sends_44 : decode cX6_sends 44 = .ok (.invokevirtual 164, 3) := by decide +kernel
theorem dX6_sends_47 : decode cX6_sends 47 = .ok (.ifCond .eq 6, 3) := by decide +kernel
theorem dX6_sends_50 : decode cX6_sends 50 = .ok (.bipush (-2), 2) := by decide +kernel
theorem dX6_sends_52 : decode cX6_sends 52 = .ok (.ireturn, 1) := by decide +kernel
theorem dX6_sends_53 : decode cX6_sends 53 = .ok (.aload_n 0, 1) := by decide +kernel
theorem dX6_sends_54 : decode cX6_sends 54 = .ok (.invokevirtual 146, 3) := by decide +kernel
theorem dX6_sends_57 : decode cX6_sends 57 = .ok (.aload_n 0, 1) := by decide +kernel
theorem dX6_sends_58 : decode cX6_sends 58 = .ok (.getfield 29, 3) := by decide +kernel
theorem dX6_sends_61 : decode cX6_sends 61 = .ok (.dup, 1) := by decide +kernel
theorem dX6_sends_62 : decode cX6_sends 62 = .ok (.getfield 131, 3) := by decide +kernel
theorem dX6_sends_65 : decode cX6_sends 65 = .ok (.iload_n 2, 1) := by decide +kernel
theorem dX6_sends_66 : decode cX6_sends 66 = .ok (.isub, 1) := by decide +kernel
theorem dX6_sends_67 : decode cX6_sends 67 = .ok (.putfield 131, 3) := by decide +kernel
theorem dX6_sends_70 : decode cX6_sends 70 = .ok (.aload_n 0, 1) := by decide +kernel
theorem dX6_sends_71 : decode cX6_sends 71 = .ok (.getfield 29, 3) := by decide +kernel
theorem dX6_sends_74 : decode cX6_sends 74 = .ok (.dup, 1) := by decide +kernel
theorem dX6_sends_75 : decode cX6_sends 75 = .ok (.getfield 134, 3) := by decide +kernel
theorem dX6_sends_78 : decode cX6_sends 78 = .ok (.aload_n 0, 1) := by decide +kernel
theorem dX6_sends_79 : decode cX6_sends 79 = .ok (.getfield 19, 3) := by decide +kernel
theorem dX6_sends_82 : decode cX6_sends 82 = .ok (.iconst 4, 1) := by decide +kernel
theorem dX6_sends_83 : decode cX6_sends 83 = .ok (.iload_n 1, 1) := by decide +kernel
theorem dX6_sends_84 : decode cX6_sends 84 = .ok (.invokevirtual 95, 3) := by decide +kernel
theorem dX6_sends_87 : decode cX6_sends 87 = .ok (.iadd, 1) := by decide +kernel
theorem dX6_sends_88 : decode cX6_sends 88 = .ok (.putfield 134, 3) := by decide +kernel
theorem dX6_sends_91 : decode cX6_sends 91 = .ok (.aload_n 0, 1) := by decide +kernel
theorem dX6_sends_92 : decode cX6_sends 92 = .ok (.getfield 29, 3) := by decide +kernel
theorem dX6_sends_95 : decode cX6_sends 95 = .ok (.dup, 1) := by decide +kernel
theorem dX6_sends_96 : decode cX6_sends 96 = .ok (.getfield 137, 3) := by decide +kernel
theorem dX6_sends_99 : decode cX6_sends 99 = .ok (.iconst 1, 1) := by decide +kernel
theorem dX6_sends_100 : decode cX6_sends 100 = .ok (.iload_n 1, 1) := by decide +kernel
theorem dX6_sends_101 : decode cX6_sends 101 = .ok (.ishl, 1) := by decide +kernel
theorem dX6_sends_102 : decode cX6_sends 102 = .ok (.ior, 1) := by decide +kernel
theorem dX6_sends_103 : decode cX6_sends 103 = .ok (.putfield 137, 3) := by decide +kernel
theorem dX6_sends_106 : decode cX6_sends 106 = .ok (.aload_n 0, 1) := by decide +kernel
theorem dX6_sends_107 : decode cX6_sends 107 = .ok (.getfield 29, 3) := by decide +kernel
theorem dX6_sends_110 : decode cX6_sends 110 = .ok (.getfield 134, 3) := by decide +kernel
theorem dX6_sends_113 : decode cX6_sends 113 = .ok (.ireturn, 1) := by decide +kernel
theorem dX6_sweeps_0 : decode cX6_sweeps 0 = .ok (.aload_n 0, 1) := by decide +kernel
theorem dX6_sweeps_1 : decode cX6_sweeps 1 = .ok (.invokevirtual 146, 3) := by decide +kernel
theorem dX6_sweeps_4 : decode cX6_sweeps 4 = .ok (.aload_n 0, 1) := by decide +kernel
theorem dX6_sweeps_5 : decode cX6_sweeps 5 = .ok (.getfield 29, 3) := by decide +kernel
theorem dX6_sweeps_8 : decode cX6_sweeps 8 = .ok (.getfield 115, 3) := by decide +kernel
theorem dX6_sweeps_11 : decode cX6_sweeps 11 = .ok (.invokevirtual 167, 3) := by decide +kernel
theorem dX6_sweeps_14 : decode cX6_sweeps 14 = .ok (.aload_n 0, 1) := by decide +kernel
theorem dX6_sweeps_15 : decode cX6_sweeps 15 = .ok (.getfield 29, 3) := by decide +kernel
theorem dX6_sweeps_18 : decode cX6_sweeps 18 = .ok (.getfield 115, 3) := by decide +kernel
theorem dX6_sweeps_21 : decode cX6_sweeps 21 = .ok (.aload_n 0, 1) := by decide +kernel
theorem dX6_sweeps_22 : decode cX6_sweeps 22 = .ok (.getfield 29, 3) := by decide +kernel
theorem dX6_sweeps_25 : decode cX6_sweeps 25 = .ok (.getfield 115, 3) := by decide +kernel
theorem dX6_sweeps_28 : decode cX6_sweeps 28 = .ok (.getfield 140, 3) := by decide +kernel
theorem dX6_sweeps_31 : decode cX6_sweeps 31 = .ok (.invokevirtual 118, 3) := by decide +kernel
theorem dX6_sweeps_34 : decode cX6_sweeps 34 = .ok (.ireturn, 1) := by decide +kernel
theorem dX6_spins_0 : decode cX6_spins 0 = .ok (.iload_n 1, 1) := by decide +kernel
theorem dX6_spins_1 : decode cX6_spins 1 = .ok (.iconst 1, 1) := by decide +kernel
theorem dX6_spins_2 : decode cX6_spins 2 = .ok (.if_icmp .lt 9, 3) := by decide +kernel
theorem dX6_spins_5 : decode cX6_spins 5 = .ok (.iload_n 1, 1) := by decide +kernel
theorem dX6_spins_6 : decode cX6_spins 6 = .ok (.bipush 8, 2) := by decide +kernel
theorem dX6_spins_8 : decode cX6_spins 8 = .ok (.if_icmp .lt 5, 3) := by decide +kernel
theorem dX6_spins_11 : decode cX6_spins 11 = .ok (.iconst (-1), 1) := by decide +kernel
theorem dX6_spins_12 : decode cX6_spins 12 = .ok (.ireturn, 1) := by decide +kernel
theorem dX6_spins_13 : decode cX6_spins 13 = .ok (.aload_n 0, 1) := by decide +kernel
theorem dX6_spins_14 : decode cX6_spins 14 = .ok (.invokevirtual 146, 3) := by decide +kernel
theorem dX6_spins_17 : decode cX6_spins 17 = .ok (.aload_n 0, 1) := by decide +kernel
theorem dX6_spins_18 : decode cX6_spins 18 = .ok (.getfield 29, 3) := by decide +kernel
theorem dX6_spins_21 : decode cX6_spins 21 = .ok (.getfield 115, 3) := by decide +kernel
theorem dX6_spins_24 : decode cX6_spins 24 = .ok (.iload_n 1, 1) := by decide +kernel
theorem dX6_spins_25 : decode cX6_spins 25 = .ok (.invokevirtual 170, 3) := by decide +kernel
theorem dX6_spins_28 : decode cX6_spins 28 = .ok (.aload_n 0, 1) := by decide +kernel
theorem dX6_spins_29 : decode cX6_spins 29 = .ok (.getfield 29, 3) := by decide +kernel
theorem dX6_spins_32 : decode cX6_spins 32 = .ok (.getfield 115, 3) := by decide +kernel
theorem dX6_spins_35 : decode cX6_spins 35 = .ok (.getfield 140, 3) := by decide +kernel
theorem dX6_spins_38 : decode cX6_spins 38 = .ok (.ireturn, 1) := by decide +kernel
theorem dX6_undo_0 : decode cX6_undo 0 = .ok (.aload_n 0, 1) := by decide +kernel
theorem dX6_undo_1 : decode cX6_undo 1 = .ok (.getfield 143, 3) := by decide +kernel
theorem dX6_undo_4 : decode cX6_undo 4 = .ok (.iconst 1, 1) := by decide +kernel
theorem dX6_undo_5 : decode cX6_undo 5 = .ok (.if_icmp .ge 6, 3) := by decide +kernel
theorem dX6_undo_8 : decode cX6_undo 8 = .ok (.bipush (-2), 2) := by decide +kernel
theorem dX6_undo_10 : decode cX6_undo 10 = .ok (.ireturn, 1) := by decide +kernel
theorem dX6_undo_11 : decode cX6_undo 11 = .ok (.aload_n 0, 1) := by decide +kernel
theorem dX6_undo_12 : decode cX6_undo 12 = .ok (.dup, 1) := by decide +kernel
theorem dX6_undo_13 : decode cX6_undo 13 = .ok (.getfield 143, 3) := by decide +kernel
theorem dX6_undo_16 : decode cX6_undo 16 = .ok (.iconst 1, 1) := by decide +kernel
theorem dX6_undo_17 : decode cX6_undo 17 = .ok (.isub, 1) := by decide +kernel
theorem dX6_undo_18 : decode cX6_undo 18 = .ok (.putfield 143, 3) := by decide +kernel
theorem dX6_undo_21 : decode cX6_undo 21 = .ok (.aload_n 0, 1) := by decide +kernel
theorem dX6_undo_22 : decode cX6_undo 22 = .ok (.aload_n 0, 1) := by decide +kernel
theorem dX6_undo_23 : decode cX6_undo 23 = .ok (.getfield 173, 3) := by decide +kernel
theorem dX6_undo_26 : decode cX6_undo 26 = .ok (.iconst 1, 1) := by decide +kernel
theorem dX6_undo_27 : decode cX6_undo 27 = .ok (.if_icmp .ge 8, 3) := by decide +kernel
theorem dX6_undo_30 : decode cX6_undo 30 = .ok (.bipush 9, 2) := by decide +kernel
theorem dX6_undo_32 : decode cX6_undo 32 = .ok (.goto 9, 3) := by decide +kernel
theorem dX6_undo_35 : decode cX6_undo 35 = .ok (.aload_n 0, 1) := by decide +kernel
theorem dX6_undo_36 : decode cX6_undo 36 = .ok (.getfield 173, 3) := by decide +kernel
theorem dX6_undo_39 : decode cX6_undo 39 = .ok (.iconst 1, 1) := by decide +kernel
theorem dX6_undo_40 : decode cX6_undo 40 = .ok (.isub, 1) := by decide +kernel
theorem dX6_undo_41 : decode cX6_undo 41 = .ok (.putfield 173, 3) := by decide +kernel
theorem dX6_undo_44 : decode cX6_undo 44 = .ok (.aload_n 0, 1) := by decide +kernel
theorem dX6_undo_45 : decode cX6_undo 45 = .ok (.getfield 38, 3) := by decide +kernel
theorem dX6_undo_48 : decode cX6_undo 48 = .ok (.aload_n 0, 1) := by decide +kernel
theorem dX6_undo_49 : decode cX6_undo 49 = .ok (.getfield 173, 3) := by decide +kernel
theorem dX6_undo_52 : decode cX6_undo 52 = .ok (.aload_n 0, 1) := by decide +kernel
theorem dX6_undo_53 : decode cX6_undo 53 = .ok (.getfield 29, 3) := by decide +kernel
theorem dX6_undo_56 : decode cX6_undo 56 = .ok (.invokevirtual 176, 3) := by decide +kernel
theorem dX6_undo_59 : decode cX6_undo 59 = .ok (.aload_n 0, 1) := by decide +kernel
theorem dX6_undo_60 : decode cX6_undo 60 = .ok (.getfield 143, 3) := by decide +kernel
theorem dX6_undo_63 : decode cX6_undo 63 = .ok (.ireturn, 1) := by decide +kernel
theorem dX6_inYears_0 : decode cX6_inYears 0 = .ok (.aload_n 0, 1) := by decide +kernel
theorem dX6_inYears_1 : decode cX6_inYears 1 = .ok (.iload_n 1, 1) := by decide +kernel
theorem dX6_inYears_2 : decode cX6_inYears 2 = .ok (.invokevirtual 91, 3) := by decide +kernel
theorem dX6_inYears_5 : decode cX6_inYears 5 = .ok (.ifCond .eq 13, 3) := by decide +kernel
theorem dX6_inYears_8 : decode cX6_inYears 8 = .ok (.iload_n 2, 1) := by decide +kernel
theorem dX6_inYears_9 : decode cX6_inYears 9 = .ok (.ifCond .lt 9, 3) := by decide +kernel
theorem dX6_inYears_12 : decode cX6_inYears 12 = .ok (.iload_n 2, 1) := by decide +kernel
theorem dX6_inYears_13 : decode cX6_inYears 13 = .ok (.bipush 30, 2) := by decide +kernel
theorem dX6_inYears_15 : decode cX6_inYears 15 = .ok (.if_icmp .le 5, 3) := by decide +kernel
theorem dX6_inYears_18 : decode cX6_inYears 18 = .ok (.iconst (-1), 1) := by decide +kernel
theorem dX6_inYears_19 : decode cX6_inYears 19 = .ok (.ireturn, 1) := by decide +kernel
theorem dX6_inYears_20 : decode cX6_inYears 20 = .ok (.aload_n 0, 1) := by decide +kernel
theorem dX6_inYears_21 : decode cX6_inYears 21 = .ok (.getfield 19, 3) := by decide +kernel
theorem dX6_inYears_24 : decode cX6_inYears 24 = .ok (.iconst 0, 1) := by decide +kernel
theorem dX6_inYears_25 : decode cX6_inYears 25 = .ok (.iload_n 1, 1) := by decide +kernel
theorem dX6_inYears_26 : decode cX6_inYears 26 = .ok (.invokevirtual 95, 3) := by decide +kernel
theorem dX6_inYears_29 : decode cX6_inYears 29 = .ok (.aload_n 0, 1) := by decide +kernel
theorem dX6_inYears_30 : decode cX6_inYears 30 = .ok (.getfield 29, 3) := by decide +kernel
theorem dX6_inYears_33 : decode cX6_inYears 33 = .ok (.iload_n 1, 1) := by decide +kernel
theorem dX6_inYears_34 : decode cX6_inYears 34 = .ok (.invokevirtual 99, 3) := by decide +kernel
theorem dX6_inYears_37 : decode cX6_inYears 37 = .ok (.iload_n 2, 1) := by decide +kernel
theorem dX6_inYears_38 : decode cX6_inYears 38 = .ok (.iadd, 1) := by decide +kernel
theorem dX6_inYears_39 : decode cX6_inYears 39 = .ok (.aload_n 0, 1) := by decide +kernel
theorem dX6_inYears_40 : decode cX6_inYears 40 = .ok (.getfield 19, 3) := by decide +kernel
theorem dX6_inYears_43 : decode cX6_inYears 43 = .ok (.invokevirtual 180, 3) := by decide +kernel
theorem dX6_inYears_46 : decode cX6_inYears 46 = .ok (.invokestatic 183, 3) := by decide +kernel
theorem dX6_inYears_49 : decode cX6_inYears 49 = .ok (.ireturn, 1) := by decide +kernel
theorem dX6_turn_0 : decode cX6_turn 0 = .ok (.iload_n 1, 1) := by decide +kernel
theorem dX6_turn_1 : decode cX6_turn 1 = .ok (.iconst 1, 1) := by decide +kernel
theorem dX6_turn_2 : decode cX6_turn 2 = .ok (.if_icmp .lt 18, 3) := by decide +kernel
theorem dX6_turn_5 : decode cX6_turn 5 = .ok (.iload_n 1, 1) := by decide +kernel
theorem dX6_turn_6 : decode cX6_turn 6 = .ok (.bipush 30, 2) := by decide +kernel
theorem dX6_turn_8 : decode cX6_turn 8 = .ok (.if_icmp .gt 12, 3) := by decide +kernel
theorem dX6_turn_11 : decode cX6_turn 11 = .ok (.iload_n 2, 1) := by decide +kernel
theorem dX6_turn_12 : decode cX6_turn 12 = .ok (.ifCond .lt 8, 3) := by decide +kernel
theorem dX6_turn_15 : decode cX6_turn 15 = .ok (.iload_n 2, 1) := by decide +kernel
theorem dX6_turn_16 : decode cX6_turn 16 = .ok (.iconst 2, 1) := by decide +kernel
theorem dX6_turn_17 : decode cX6_turn 17 = .ok (.if_icmp .le 5, 3) := by decide +kernel
theorem dX6_turn_20 : decode cX6_turn 20 = .ok (.iconst (-1), 1) := by decide +kernel
theorem dX6_turn_21 : decode cX6_turn 21 = .ok (.ireturn, 1) := by decide +kernel
theorem dX6_turn_22 : decode cX6_turn 22 = .ok (.iload_n 2, 1) := by decide +kernel
theorem dX6_turn_23 : decode cX6_turn 23 = .ok (.iconst 2, 1) := by decide +kernel
theorem dX6_turn_24 : decode cX6_turn 24 = .ok (.if_icmp .ne 8, 3) := by decide +kernel
theorem dX6_turn_27 : decode cX6_turn 27 = .ok (.aload_n 0, 1) := by decide +kernel
theorem dX6_turn_28 : decode cX6_turn 28 = .ok (.invokevirtual 187, 3) := by decide +kernel
theorem dX6_turn_31 : decode cX6_turn 31 = .ok (.ireturn, 1) := by decide +kernel
theorem dX6_turn_32 : decode cX6_turn 32 = .ok (.iconst 1, 1) := by decide +kernel
theorem dX6_turn_33 : decode cX6_turn 33 = .ok (.iload_n 1, 1) := by decide +kernel
theorem dX6_turn_34 : decode cX6_turn 34 = .ok (.aload_n 0, 1) := by decide +kernel
theorem dX6_turn_35 : decode cX6_turn 35 = .ok (.getfield 19, 3) := by decide +kernel
theorem dX6_turn_38 : decode cX6_turn 38 = .ok (.invokevirtual 180, 3) := by decide +kernel
theorem dX6_turn_41 : decode cX6_turn 41 = .ok (.invokestatic 183, 3) := by decide +kernel
theorem dX6_turn_44 : decode cX6_turn 44 = .ok (.istore_n 3, 1) := by decide +kernel
theorem dX6_turn_45 : decode cX6_turn 45 = .ok (.iload_n 3, 1) := by decide +kernel
theorem dX6_turn_46 : decode cX6_turn 46 = .ok (.iload_n 1, 1) := by decide +kernel
theorem dX6_turn_47 : decode cX6_turn 47 = .ok (.iload_n 2, 1) := by decide +kernel
theorem dX6_turn_48 : decode cX6_turn 48 = .ok (.invokestatic 190, 3) := by decide +kernel
theorem dX6_turn_51 : decode cX6_turn 51 = .ok (.ireturn, 1) := by decide +kernel
theorem dX6_plan_0 : decode cX6_plan 0 = .ok (.iload_n 1, 1) := by decide +kernel
theorem dX6_plan_1 : decode cX6_plan 1 = .ok (.iconst 1, 1) := by decide +kernel
theorem dX6_plan_2 : decode cX6_plan 2 = .ok (.if_icmp .lt 18, 3) := by decide +kernel
theorem dX6_plan_5 : decode cX6_plan 5 = .ok (.iload_n 1, 1) := by decide +kernel
theorem dX6_plan_6 : decode cX6_plan 6 = .ok (.iconst 4, 1) := by decide +kernel
theorem dX6_plan_7 : decode cX6_plan 7 = .ok (.if_icmp .gt 13, 3) := by decide +kernel
theorem dX6_plan_10 : decode cX6_plan 10 = .ok (.iload_n 2, 1) := by decide +kernel
theorem dX6_plan_11 : decode cX6_plan 11 = .ok (.iconst (-1), 1) := by decide +kernel
theorem dX6_plan_12 : decode cX6_plan 12 = .ok (.if_icmp .lt 8, 3) := by decide +kernel
theorem dX6_plan_15 : decode cX6_plan 15 = .ok (.iload_n 2, 1) := by decide +kernel
theorem dX6_plan_16 : decode cX6_plan 16 = .ok (.iconst 4, 1) := by decide +kernel
theorem dX6_plan_17 : decode cX6_plan 17 = .ok (.if_icmp .lt 5, 3) := by decide +kernel
theorem dX6_plan_20 : decode cX6_plan 20 = .ok (.iconst (-1), 1) := by decide +kernel
theorem dX6_plan_21 : decode cX6_plan 21 = .ok (.ireturn, 1) := by decide +kernel
theorem dX6_plan_22 : decode cX6_plan 22 = .ok (.iload_n 2, 1) := by decide +kernel
theorem dX6_plan_23 : decode cX6_plan 23 = .ok (.iload_n 1, 1) := by decide +kernel
theorem dX6_plan_24 : decode cX6_plan 24 = .ok (.if_icmp .lt 6, 3) := by decide +kernel
theorem dX6_plan_27 : decode cX6_plan 27 = .ok (.bipush (-9), 2) := by decide +kernel
theorem dX6_plan_29 : decode cX6_plan 29 = .ok (.ireturn, 1) := by decide +kernel
theorem dX6_plan_30 : decode cX6_plan 30 = .ok (.aload_n 0, 1) := by decide +kernel
theorem dX6_plan_31 : decode cX6_plan 31 = .ok (.getfield 69, 3) := by decide +kernel
theorem dX6_plan_34 : decode cX6_plan 34 = .ok (.aload_n 0, 1) := by decide +kernel
theorem dX6_plan_35 : decode cX6_plan 35 = .ok (.getfield 19, 3) := by decide +kernel
theorem dX6_plan_38 : decode cX6_plan 38 = .ok (.aload_n 0, 1) := by decide +kernel
theorem dX6_plan_39 : decode cX6_plan 39 = .ok (.getfield 29, 3) := by decide +kernel
theorem dX6_plan_42 : decode cX6_plan 42 = .ok (.iload_n 1, 1) := by decide +kernel
theorem dX6_plan_43 : decode cX6_plan 43 = .ok (.invokevirtual 193, 3) := by decide +kernel
theorem dX6_plan_46 : decode cX6_plan 46 = .ok (.iload_n 2, 1) := by decide +kernel
theorem dX6_plan_47 : decode cX6_plan 47 = .ok (.ifCond .ge 13, 3) := by decide +kernel
theorem dX6_plan_50 : decode cX6_plan 50 = .ok (.aload_n 0, 1) := by decide +kernel
theorem dX6_plan_51 : decode cX6_plan 51 = .ok (.getfield 69, 3) := by decide +kernel
theorem dX6_plan_54 : decode cX6_plan 54 = .ok (.invokevirtual 197, 3) := by decide +kernel
theorem dX6_plan_57 : decode cX6_plan 57 = .ok (.goto 11, 3) := by decide +kernel
theorem dX6_plan_60 : decode cX6_plan 60 = .ok (.aload_n 0, 1) := by decide +kernel
theorem dX6_plan_61 : decode cX6_plan 61 = .ok (.getfield 69, 3) := by decide +kernel
theorem dX6_plan_64 : decode cX6_plan 64 = .ok (.iload_n 2, 1) := by decide +kernel
theorem dX6_plan_65 : decode cX6_plan 65 = .ok (.invokevirtual 200, 3) := by decide +kernel
theorem dX6_plan_68 : decode cX6_plan 68 = .ok (.ireturn, 1) := by decide +kernel
theorem dX6_kept_0 : decode cX6_kept 0 = .ok (.iload_n 1, 1) := by decide +kernel
theorem dX6_kept_1 : decode cX6_kept 1 = .ok (.ifCond .lt 8, 3) := by decide +kernel
theorem dX6_kept_4 : decode cX6_kept 4 = .ok (.iload_n 1, 1) := by decide +kernel
theorem dX6_kept_5 : decode cX6_kept 5 = .ok (.iconst 1, 1) := by decide +kernel
theorem dX6_kept_6 : decode cX6_kept 6 = .ok (.if_icmp .le 5, 3) := by decide +kernel
theorem dX6_kept_9 : decode cX6_kept 9 = .ok (.iconst (-1), 1) := by decide +kernel
theorem dX6_kept_10 : decode cX6_kept 10 = .ok (.ireturn, 1) := by decide +kernel
theorem dX6_kept_11 : decode cX6_kept 11 = .ok (.iconst 1, 1) := by decide +kernel
theorem dX6_kept_12 : decode cX6_kept 12 = .ok (.aload_n 0, 1) := by decide +kernel
theorem dX6_kept_13 : decode cX6_kept 13 = .ok (.getfield 19, 3) := by decide +kernel
theorem dX6_kept_16 : decode cX6_kept 16 = .ok (.invokevirtual 203, 3) := by decide +kernel
theorem dX6_kept_19 : decode cX6_kept 19 = .ok (.ishl, 1) := by decide +kernel
theorem dX6_kept_20 : decode cX6_kept 20 = .ok (.istore_n 2, 1) := by decide +kernel
theorem dX6_kept_21 : decode cX6_kept 21 = .ok (.iconst 0, 1) := by decide +kernel
theorem dX6_kept_22 : decode cX6_kept 22 = .ok (.istore_n 3, 1) := by decide +kernel
theorem dX6_kept_23 : decode cX6_kept 23 = .ok (.iconst 0, 1) := by decide +kernel
theorem dX6_kept_24 : decode cX6_kept 24 = .ok (.istore 4, 2) := by decide +kernel
theorem dX6_kept_26 : decode cX6_kept 26 = .ok (.iconst 1, 1) := by decide +kernel
theorem dX6_kept_27 : decode cX6_kept 27 = .ok (.istore 5, 2) := by decide +kernel
theorem dX6_kept_29 : decode cX6_kept 29 = .ok (.iload 5, 2) := by decide +kernel
theorem dX6_kept_31 : decode cX6_kept 31 = .ok (.iload_n 2, 1) := by decide +kernel
theorem dX6_kept_32 : decode cX6_kept 32 = .ok (.if_icmp .ge 40, 3) := by decide +kernel
theorem dX6_kept_35 : decode cX6_kept 35 = .ok (.aload_n 0, 1) := by decide +kernel
theorem dX6_kept_36 : decode cX6_kept 36 = .ok (.iload 5, 2) := by decide +kernel
theorem dX6_kept_38 : decode cX6_kept 38 = .ok (.invokevirtual 206, 3) := by decide +kernel
theorem dX6_kept_41 : decode cX6_kept 41 = .ok (.istore 6, 2) := by decide +kernel
theorem dX6_kept_43 : decode cX6_kept 43 = .ok (.iload 6, 2) := by decide +kernel
theorem dX6_kept_45 : decode cX6_kept 45 = .ok (.iload 4, 2) := by decide +kernel
theorem dX6_kept_47 : decode cX6_kept 47 = .ok (.if_icmp .le 19, 3) := by decide +kernel
theorem dX6_kept_50 : decode cX6_kept 50 = .ok (.aload_n 0, 1) := by decide +kernel
theorem dX6_kept_51 : decode cX6_kept 51 = .ok (.iload 5, 2) := by decide +kernel
theorem dX6_kept_53 : decode cX6_kept 53 = .ok (.invokevirtual 209, 3) := by decide +kernel
theorem dX6_kept_56 : decode cX6_kept 56 = .ok (.ifCond .eq 10, 3) := by decide +kernel
theorem dX6_kept_59 : decode cX6_kept 59 = .ok (.iload 5, 2) := by decide +kernel
theorem dX6_kept_61 : decode cX6_kept 61 = .ok (.istore_n 3, 1) := by decide +kernel
theorem dX6_kept_62 : decode cX6_kept 62 = .ok (.iload 6, 2) := by decide +kernel
theorem dX6_kept_64 : decode cX6_kept 64 = .ok (.istore 4, 2) := by decide +kernel
theorem dX6_kept_66 : decode cX6_kept 66 = .ok (.iinc 5 1, 3) := by decide +kernel
theorem dX6_kept_69 : decode cX6_kept 69 = .ok (.goto (-40), 3) := by decide +kernel
theorem dX6_kept_72 : decode cX6_kept 72 = .ok (.iload_n 1, 1) := by decide +kernel
theorem dX6_kept_73 : decode cX6_kept 73 = .ok (.ifCond .ne 7, 3) := by decide +kernel
theorem dX6_kept_76 : decode cX6_kept 76 = .ok (.iload_n 3, 1) := by decide +kernel
theorem dX6_kept_77 : decode cX6_kept 77 = .ok (.goto 5, 3) := by decide +kernel
theorem dX6_kept_80 : decode cX6_kept 80 = .ok (.iload 4, 2) := by decide +kernel
theorem dX6_kept_82 : decode cX6_kept 82 = .ok (.ireturn, 1) := by decide +kernel
theorem dX6_next_0 : decode cX6_next 0 = .ok (.iload_n 1, 1) := by decide +kernel
theorem dX6_next_1 : decode cX6_next 1 = .ok (.ifCond .lt 8, 3) := by decide +kernel
theorem dX6_next_4 : decode cX6_next 4 = .ok (.iload_n 1, 1) := by decide +kernel
theorem dX6_next_5 : decode cX6_next 5 = .ok (.iconst 1, 1) := by decide +kernel
theorem dX6_next_6 : decode cX6_next 6 = .ok (.if_icmp .le 5, 3) := by decide +kernel
theorem dX6_next_9 : decode cX6_next 9 = .ok (.iconst (-1), 1) := by decide +kernel
theorem dX6_next_10 : decode cX6_next 10 = .ok (.ireturn, 1) := by decide +kernel
theorem dX6_next_11 : decode cX6_next 11 = .ok (.bipush (-9), 2) := by decide +kernel
theorem dX6_next_13 : decode cX6_next 13 = .ok (.istore_n 2, 1) := by decide +kernel
theorem dX6_next_14 : decode cX6_next 14 = .ok (.iconst 0, 1) := by decide +kernel
theorem dX6_next_15 : decode cX6_next 15 = .ok (.istore_n 3, 1) := by decide +kernel
theorem dX6_next_16 : decode cX6_next 16 = .ok (.iload_n 3, 1) := by decide +kernel
theorem dX6_next_17 : decode cX6_next 17 = .ok (.aload_n 0, 1) := by decide +kernel
theorem dX6_next_18 : decode cX6_next 18 = .ok (.getfield 19, 3) := by decide +kernel
theorem dX6_next_21 : decode cX6_next 21 = .ok (.invokevirtual 203, 3) := by decide +kernel
theorem dX6_next_24 : decode cX6_next 24 = .ok (.if_icmp .ge 36, 3) := by decide +kernel
theorem dX6_next_27 : decode cX6_next 27 = .ok (.aload_n 0, 1) := by decide +kernel
theorem dX6_next_28 : decode cX6_next 28 = .ok (.getfield 29, 3) := by decide +kernel
theorem dX6_next_31 : decode cX6_next 31 = .ok (.iload_n 3, 1) := by decide +kernel
theorem dX6_next_32 : decode cX6_next 32 = .ok (.invokevirtual 109, 3) := by decide +kernel
theorem dX6_next_35 : decode cX6_next 35 = .ok (.ifCond .ne 19, 3) := by decide +kernel
theorem dX6_next_38 : decode cX6_next 38 = .ok (.iload_n 2, 1) := by decide +kernel
theorem dX6_next_39 : decode cX6_next 39 = .ok (.ifCond .lt 13, 3) := by decide +kernel
theorem dX6_next_42 : decode cX6_next 42 = .ok (.aload_n 0, 1) := by decide +kernel
theorem dX6_next_43 : decode cX6_next 43 = .ok (.iload_n 3, 1) := by decide +kernel
theorem dX6_next_44 : decode cX6_next 44 = .ok (.iload_n 2, 1) := by decide +kernel
theorem dX6_next_45 : decode cX6_next 45 = .ok (.iload_n 1, 1) := by decide +kernel
theorem dX6_next_46 : decode cX6_next 46 = .ok (.invokevirtual 212, 3) := by decide +kernel
theorem dX6_next_49 : decode cX6_next 49 = .ok (.ifCond .eq 5, 3) := by decide +kernel
theorem dX6_next_52 : decode cX6_next 52 = .ok (.iload_n 3, 1) := by decide +kernel
theorem dX6_next_53 : decode cX6_next 53 = .ok (.istore_n 2, 1) := by decide +kernel
theorem dX6_next_54 : decode cX6_next 54 = .ok (.iinc 3 1, 3) := by decide +kernel
theorem dX6_next_57 : decode cX6_next 57 = .ok (.goto (-41), 3) := by decide +kernel
theorem dX6_next_60 : decode cX6_next 60 = .ok (.iload_n 2, 1) := by decide +kernel
theorem dX6_next_61 : decode cX6_next 61 = .ok (.ireturn, 1) := by decide +kernel
theorem dX6_lack_0 : decode cX6_lack 0 = .ok (.aload_n 0, 1) := by decide +kernel
theorem dX6_lack_1 : decode cX6_lack 1 = .ok (.invokevirtual 216, 3) := by decide +kernel
theorem dX6_lack_4 : decode cX6_lack 4 = .ok (.ireturn, 1) := by decide +kernel
theorem dX6_cutFor_0 : decode cX6_cutFor 0 = .ok (.aload_n 0, 1) := by decide +kernel
theorem dX6_cutFor_1 : decode cX6_cutFor 1 = .ok (.invokevirtual 216, 3) := by decide +kernel
theorem dX6_cutFor_4 : decode cX6_cutFor 4 = .ok (.istore_n 1, 1) := by decide +kernel
theorem dX6_cutFor_5 : decode cX6_cutFor 5 = .ok (.iconst 1, 1) := by decide +kernel
theorem dX6_cutFor_6 : decode cX6_cutFor 6 = .ok (.aload_n 0, 1) := by decide +kernel
theorem dX6_cutFor_7 : decode cX6_cutFor 7 = .ok (.getfield 19, 3) := by decide +kernel
theorem dX6_cutFor_10 : decode cX6_cutFor 10 = .ok (.invokevirtual 219, 3) := by decide +kernel
theorem dX6_cutFor_13 : decode cX6_cutFor 13 = .ok (.ishl, 1) := by decide +kernel
theorem dX6_cutFor_14 : decode cX6_cutFor 14 = .ok (.istore_n 2, 1) := by decide +kernel
theorem dX6_cutFor_15 : decode cX6_cutFor 15 = .ok (.bipush (-9), 2) := by decide +kernel
theorem dX6_cutFor_17 : decode cX6_cutFor 17 = .ok (.istore_n 3, 1) := by decide +kernel
theorem dX6_cutFor_18 : decode cX6_cutFor 18 = .ok (.bipush 7, 2) := by decide +kernel
theorem dX6_cutFor_20 : decode cX6_cutFor 20 = .ok (.istore 4, 2) := by decide +kernel
theorem dX6_cutFor_22 : decode cX6_cutFor 22 = .ok (.iconst 0, 1) := by decide +kernel
theorem dX6_cutFor_23 : decode cX6_cutFor 23 = .ok (.istore 5, 2) := by decide +kernel
theorem dX6_cutFor_25 : decode cX6_cutFor 25 = .ok (.iload 5, 2) := by decide +kernel
theorem dX6_cutFor_27 : decode cX6_cutFor 27 = .ok (.iload_n 2, 1) := by decide +kernel
theorem dX6_cutFor_28 : decode cX6_cutFor 28 = .ok (.if_icmp .ge 40, 3) := by decide +kernel
theorem dX6_cutFor_31 : decode cX6_cutFor 31 = .ok (.iload 5, 2) := by decide +kernel
theorem dX6_cutFor_33 : decode cX6_cutFor 33 = .ok (.invokestatic 222, 3) := by decide +kernel
theorem dX6_cutFor_36 : decode cX6_cutFor 36 = .ok (.istore 6, 2) := by decide +kernel
theorem dX6_cutFor_38 : decode cX6_cutFor 38 = .ok (.iload 6, 2) := by decide +kernel
theorem dX6_cutFor_40 : decode cX6_cutFor 40 = .ok (.iload 4, 2) := by decide +kernel
theorem dX6_cutFor_42 : decode cX6_cutFor 42 = .ok (.if_icmp .ge 20, 3) := by decide +kernel
theorem dX6_cutFor_45 : decode cX6_cutFor 45 = .ok (.aload_n 0, 1) := by decide +kernel
theorem dX6_cutFor_46 : decode cX6_cutFor 46 = .ok (.iload 5, 2) := by decide +kernel
theorem dX6_cutFor_48 : decode cX6_cutFor 48 = .ok (.invokevirtual 227, 3) := by decide +kernel
theorem dX6_cutFor_51 : decode cX6_cutFor 51 = .ok (.iload_n 1, 1) := by decide +kernel
theorem dX6_cutFor_52 : decode cX6_cutFor 52 = .ok (.if_icmp .lt 10, 3) := by decide +kernel
theorem dX6_cutFor_55 : decode cX6_cutFor 55 = .ok (.iload 5, 2) := by decide +kernel
theorem dX6_cutFor_57 : decode cX6_cutFor 57 = .ok (.istore_n 3, 1) := by decide +kernel
theorem dX6_cutFor_58 : decode cX6_cutFor 58 = .ok (.iload 6, 2) := by decide +kernel
theorem dX6_cutFor_60 : decode cX6_cutFor 60 = .ok (.istore 4, 2) := by decide +kernel
theorem dX6_cutFor_62 : decode cX6_cutFor 62 = .ok (.iinc 5 1, 3) := by decide +kernel
theorem dX6_cutFor_65 : decode cX6_cutFor 65 = .ok (.goto (-40), 3) := by decide +kernel
theorem dX6_cutFor_68 : decode cX6_cutFor 68 = .ok (.iload_n 3, 1) := by decide +kernel
theorem dX6_cutFor_69 : decode cX6_cutFor 69 = .ok (.ireturn, 1) := by decide +kernel
theorem dX6_allBy_0 : decode cX6_allBy 0 = .ok (.aload_n 0, 1) := by decide +kernel
theorem dX6_allBy_1 : decode cX6_allBy 1 = .ok (.getfield 29, 3) := by decide +kernel
theorem dX6_allBy_4 : decode cX6_allBy 4 = .ok (.getfield 121, 3) := by decide +kernel
theorem dX6_allBy_7 : decode cX6_allBy 7 = .ok (.aload_n 0, 1) := by decide +kernel
theorem dX6_allBy_8 : decode cX6_allBy 8 = .ok (.invokevirtual 230, 3) := by decide +kernel
theorem dX6_allBy_11 : decode cX6_allBy 11 = .ok (.aload_n 0, 1) := by decide +kernel
theorem dX6_allBy_12 : decode cX6_allBy 12 = .ok (.getfield 19, 3) := by decide +kernel
theorem dX6_allBy_15 : decode cX6_allBy 15 = .ok (.invokevirtual 158, 3) := by decide +kernel
theorem dX6_allBy_18 : decode cX6_allBy 18 = .ok (.invokestatic 161, 3) := by decide +kernel
theorem dX6_allBy_21 : decode cX6_allBy 21 = .ok (.iadd, 1) := by decide +kernel
theorem dX6_allBy_22 : decode cX6_allBy 22 = .ok (.ireturn, 1) := by decide +kernel
theorem dX6_lasts_0 : decode cX6_lasts 0 = .ok (.iload_n 1, 1) := by decide +kernel
theorem dX6_lasts_1 : decode cX6_lasts 1 = .ok (.invokestatic 112, 3) := by decide +kernel
theorem dX6_lasts_4 : decode cX6_lasts 4 = .ok (.ifCond .eq 11, 3) := by decide +kernel
theorem dX6_lasts_7 : decode cX6_lasts 7 = .ok (.aload_n 0, 1) := by decide +kernel
theorem dX6_lasts_8 : decode cX6_lasts 8 = .ok (.iload_n 1, 1) := by decide +kernel
theorem dX6_lasts_9 : decode cX6_lasts 9 = .ok (.invokevirtual 233, 3) := by decide +kernel
theorem dX6_lasts_12 : decode cX6_lasts 12 = .ok (.goto 4, 3) := by decide +kernel
theorem dX6_lasts_15 : decode cX6_lasts 15 = .ok (.iconst (-1), 1) := by decide +kernel
theorem dX6_lasts_16 : decode cX6_lasts 16 = .ok (.ireturn, 1) := by decide +kernel
theorem dX6_latest_0 : decode cX6_latest 0 = .ok (.iconst 0, 1) := by decide +kernel
theorem dX6_latest_1 : decode cX6_latest 1 = .ok (.istore_n 1, 1) := by decide +kernel
theorem dX6_latest_2 : decode cX6_latest 2 = .ok (.iconst (-1), 1) := by decide +kernel
theorem dX6_latest_3 : decode cX6_latest 3 = .ok (.istore_n 2, 1) := by decide +kernel
theorem dX6_latest_4 : decode cX6_latest 4 = .ok (.iconst 0, 1) := by decide +kernel
theorem dX6_latest_5 : decode cX6_latest 5 = .ok (.istore_n 3, 1) := by decide +kernel
theorem dX6_latest_6 : decode cX6_latest 6 = .ok (.iload_n 3, 1) := by decide +kernel
theorem dX6_latest_7 : decode cX6_latest 7 = .ok (.bipush 8, 2) := by decide +kernel
theorem dX6_latest_9 : decode cX6_latest 9 = .ok (.if_icmp .ge 27, 3) := by decide +kernel
theorem dX6_latest_12 : decode cX6_latest 12 = .ok (.aload_n 0, 1) := by decide +kernel
theorem dX6_latest_13 : decode cX6_latest 13 = .ok (.iload_n 3, 1) := by decide +kernel
theorem dX6_latest_14 : decode cX6_latest 14 = .ok (.invokevirtual 233, 3) := by decide +kernel
theorem dX6_latest_17 : decode cX6_latest 17 = .ok (.istore 4, 2) := by decide +kernel
theorem dX6_latest_19 : decode cX6_latest 19 = .ok (.iload 4, 2) := by decide +kernel
theorem dX6_latest_21 : decode cX6_latest 21 = .ok (.iload_n 2, 1) := by decide +kernel
theorem dX6_latest_22 : decode cX6_latest 22 = .ok (.if_icmp .le 8, 3) := by decide +kernel
theorem dX6_latest_25 : decode cX6_latest 25 = .ok (.iload_n 3, 1) := by decide +kernel
theorem dX6_latest_26 : decode cX6_latest 26 = .ok (.istore_n 1, 1) := by decide +kernel
theorem dX6_latest_27 : decode cX6_latest 27 = .ok (.iload 4, 2) := by decide +kernel
theorem dX6_latest_29 : decode cX6_latest 29 = .ok (.istore_n 2, 1) := by decide +kernel
theorem dX6_latest_30 : decode cX6_latest 30 = .ok (.iinc 3 1, 3) := by decide +kernel
theorem dX6_latest_33 : decode cX6_latest 33 = .ok (.goto (-27), 3) := by decide +kernel
theorem dX6_latest_36 : decode cX6_latest 36 = .ok (.iload_n 1, 1) := by decide +kernel
theorem dX6_latest_37 : decode cX6_latest 37 = .ok (.ireturn, 1) := by decide +kernel
theorem dX6_saw_0 : decode cX6_saw 0 = .ok (.iload_n 1, 1) := by decide +kernel
theorem dX6_saw_1 : decode cX6_saw 1 = .ok (.ifCond .lt 26, 3) := by decide +kernel
theorem dX6_saw_4 : decode cX6_saw 4 = .ok (.iload_n 1, 1) := by decide +kernel
theorem dX6_saw_5 : decode cX6_saw 5 = .ok (.bipush 40, 2) := by decide +kernel
theorem dX6_saw_7 : decode cX6_saw 7 = .ok (.if_icmp .gt 20, 3) := by decide +kernel
theorem dX6_saw_10 : decode cX6_saw 10 = .ok (.iload_n 2, 1) := by decide +kernel
theorem dX6_saw_11 : decode cX6_saw 11 = .ok (.invokestatic 112, 3) := by decide +kernel
theorem dX6_saw_14 : decode cX6_saw 14 = .ok (.ifCond .eq 13, 3) := by decide +kernel
theorem dX6_saw_17 : decode cX6_saw 17 = .ok (.iload_n 3, 1) := by decide +kernel
theorem dX6_saw_18 : decode cX6_saw 18 = .ok (.ifCond .lt 9, 3) := by decide +kernel
theorem dX6_saw_21 : decode cX6_saw 21 = .ok (.iload_n 3, 1) := by decide +kernel
theorem dX6_saw_22 : decode cX6_saw 22 = .ok (.bipush 15, 2) := by decide +kernel
theorem dX6_saw_24 : decode cX6_saw 24 = .ok (.if_icmp .le 5, 3) := by decide +kernel
theorem dX6_saw_27 : decode cX6_saw 27 = .ok (.iconst (-1), 1) := by decide +kernel
theorem dX6_saw_28 : decode cX6_saw 28 = .ok (.ireturn, 1) := by decide +kernel
theorem dX6_saw_29 : decode cX6_saw 29 = .ok (.aload_n 0, 1) := by decide +kernel
theorem dX6_saw_30 : decode cX6_saw 30 = .ok (.getfield 236, 3) := by decide +kernel
theorem dX6_saw_33 : decode cX6_saw 33 = .ok (.ifCond .lt 11, 3) := by decide +kernel
theorem dX6_saw_36 : decode cX6_saw 36 = .ok (.aload_n 0, 1) := by decide +kernel
theorem dX6_saw_37 : decode cX6_saw 37 = .ok (.getfield 236, 3) := by decide +kernel
theorem dX6_saw_40 : decode cX6_saw 40 = .ok (.iconst 5, 1) := by decide +kernel
theorem dX6_saw_41 : decode cX6_saw 41 = .ok (.if_icmp .lt 6, 3) := by decide +kernel
theorem dX6_saw_44 : decode cX6_saw 44 = .ok (.bipush (-3), 2) := by decide +kernel
theorem dX6_saw_46 : decode cX6_saw 46 = .ok (.ireturn, 1) := by decide +kernel
theorem dX6_saw_47 : decode cX6_saw 47 = .ok (.aload_n 0, 1) := by decide +kernel
theorem dX6_saw_48 : decode cX6_saw 48 = .ok (.getfield 49, 3) := by decide +kernel
theorem dX6_saw_51 : decode cX6_saw 51 = .ok (.aload_n 0, 1) := by decide +kernel
theorem dX6_saw_52 : decode cX6_saw 52 = .ok (.getfield 236, 3) := by decide +kernel
theorem dX6_saw_55 : decode cX6_saw 55 = .ok (.iload_n 1, 1) := by decide +kernel
theorem dX6_saw_56 : decode cX6_saw 56 = .ok (.iastore, 1) := by decide +kernel
theorem dX6_saw_57 : decode cX6_saw 57 = .ok (.aload_n 0, 1) := by decide +kernel
theorem dX6_saw_58 : decode cX6_saw 58 = .ok (.getfield 53, 3) := by decide +kernel
theorem dX6_saw_61 : decode cX6_saw 61 = .ok (.aload_n 0, 1) := by decide +kernel
theorem dX6_saw_62 : decode cX6_saw 62 = .ok (.getfield 236, 3) := by decide +kernel
theorem dX6_saw_65 : decode cX6_saw 65 = .ok (.iload_n 2, 1) := by decide +kernel
theorem dX6_saw_66 : decode cX6_saw 66 = .ok (.iastore, 1) := by decide +kernel
theorem dX6_saw_67 : decode cX6_saw 67 = .ok (.aload_n 0, 1) := by decide +kernel
theorem dX6_saw_68 : decode cX6_saw 68 = .ok (.getfield 56, 3) := by decide +kernel
theorem dX6_saw_71 : decode cX6_saw 71 = .ok (.aload_n 0, 1) := by decide +kernel
theorem dX6_saw_72 : decode cX6_saw 72 = .ok (.getfield 236, 3) := by decide +kernel
theorem dX6_saw_75 : decode cX6_saw 75 = .ok (.iload_n 3, 1) := by decide +kernel
theorem dX6_saw_76 : decode cX6_saw 76 = .ok (.iastore, 1) := by decide +kernel
theorem dX6_saw_77 : decode cX6_saw 77 = .ok (.aload_n 0, 1) := by decide +kernel
theorem dX6_saw_78 : decode cX6_saw 78 = .ok (.dup, 1) := by decide +kernel
theorem dX6_saw_79 : decode cX6_saw 79 = .ok (.getfield 236, 3) := by decide +kernel
theorem dX6_saw_82 : decode cX6_saw 82 = .ok (.iconst 1, 1) := by decide +kernel
theorem dX6_saw_83 : decode cX6_saw 83 = .ok (.iadd, 1) := by decide +kernel
theorem dX6_saw_84 : decode cX6_saw 84 = .ok (.putfield 236, 3) := by decide +kernel
theorem dX6_saw_87 : decode cX6_saw 87 = .ok (.aload_n 0, 1) := by decide +kernel
theorem dX6_saw_88 : decode cX6_saw 88 = .ok (.getfield 236, 3) := by decide +kernel
theorem dX6_saw_91 : decode cX6_saw 91 = .ok (.ireturn, 1) := by decide +kernel
theorem dX6_forget_0 : decode cX6_forget 0 = .ok (.aload_n 0, 1) := by decide +kernel
theorem dX6_forget_1 : decode cX6_forget 1 = .ok (.getfield 236, 3) := by decide +kernel
theorem dX6_forget_4 : decode cX6_forget 4 = .ok (.istore_n 1, 1) := by decide +kernel
theorem dX6_forget_5 : decode cX6_forget 5 = .ok (.aload_n 0, 1) := by decide +kernel
theorem dX6_forget_6 : decode cX6_forget 6 = .ok (.iconst 0, 1) := by decide +kernel
theorem dX6_forget_7 : decode cX6_forget 7 = .ok (.putfield 236, 3) := by decide +kernel
theorem dX6_forget_10 : decode cX6_forget 10 = .ok (.iload_n 1, 1) := by decide +kernel
theorem dX6_forget_11 : decode cX6_forget 11 = .ok (.ireturn, 1) := by decide +kernel
theorem dX6_which_0 : decode cX6_which 0 = .ok (.iconst 0, 1) := by decide +kernel
theorem dX6_which_1 : decode cX6_which 1 = .ok (.istore_n 1, 1) := by decide +kernel
theorem dX6_which_2 : decode cX6_which 2 = .ok (.iconst 0, 1) := by decide +kernel
theorem dX6_which_3 : decode cX6_which 3 = .ok (.istore_n 2, 1) := by decide +kernel
theorem dX6_which_4 : decode cX6_which 4 = .ok (.iload_n 2, 1) := by decide +kernel
theorem dX6_which_5 : decode cX6_which 5 = .ok (.bipush 8, 2) := by decide +kernel
theorem dX6_which_7 : decode cX6_which 7 = .ok (.if_icmp .ge 23, 3) := by decide +kernel
theorem dX6_which_10 : decode cX6_which 10 = .ok (.aload_n 0, 1) := by decide +kernel
theorem dX6_which_11 : decode cX6_which 11 = .ok (.iload_n 2, 1) := by decide +kernel
theorem dX6_which_12 : decode cX6_which 12 = .ok (.invokevirtual 239, 3) := by decide +kernel
theorem dX6_which_15 : decode cX6_which 15 = .ok (.ifCond .eq 9, 3) := by decide +kernel
theorem dX6_which_18 : decode cX6_which 18 = .ok (.iload_n 1, 1) := by decide +kernel
theorem dX6_which_19 : decode cX6_which 19 = .ok (.iconst 1, 1) := by decide +kernel
theorem dX6_which_20 : decode cX6_which 20 = .ok (.iload_n 2, 1) := by decide +kernel
theorem dX6_which_21 : decode cX6_which 21 = .ok (.ishl, 1) := by decide +kernel
theorem dX6_which_22 : decode cX6_which 22 = .ok (.ior, 1) := by decide +kernel
theorem dX6_which_23 : decode cX6_which 23 = .ok (.istore_n 1, 1) := by decide +kernel
theorem dX6_which_24 : decode cX6_which 24 = .ok (.iinc 2 1, 3) := by decide +kernel
theorem dX6_which_27 : decode cX6_which 27 = .ok (.goto (-23), 3) := by decide +kernel
theorem dX6_which_30 : decode cX6_which 30 = .ok (.iload_n 1, 1) := by decide +kernel
theorem dX6_which_31 : decode cX6_which 31 = .ok (.ireturn, 1) := by decide +kernel
theorem dX6_odds_0 : decode cX6_odds 0 = .ok (.iload_n 1, 1) := by decide +kernel
theorem dX6_odds_1 : decode cX6_odds 1 = .ok (.ifCond .lt 40, 3) := by decide +kernel
theorem dX6_odds_4 : decode cX6_odds 4 = .ok (.iload_n 1, 1) := by decide +kernel
theorem dX6_odds_5 : decode cX6_odds 5 = .ok (.bipush 10, 2) := by decide +kernel
theorem dX6_odds_7 : decode cX6_odds 7 = .ok (.if_icmp .gt 34, 3) := by decide +kernel
theorem dX6_odds_10 : decode cX6_odds 10 = .ok (.iload_n 2, 1) := by decide +kernel
theorem dX6_odds_11 : decode cX6_odds 11 = .ok (.ifCond .lt 30, 3) := by decide +kernel
theorem dX6_odds_14 : decode cX6_odds 14 = .ok (.iload_n 2, 1) := by decide +kernel
theorem dX6_odds_15 : decode cX6_odds 15 = .ok (.bipush 6, 2) := by decide +kernel
theorem dX6_odds_17 : decode cX6_odds 17 = .ok (.if_icmp .gt 24, 3) := by decide +kernel
theorem dX6_odds_20 : decode cX6_odds 20 = .ok (.iload_n 3, 1) := by decide +kernel
theorem dX6_odds_21 : decode cX6_odds 21 = .ok (.ifCond .lt 20, 3) := by decide +kernel
theorem dX6_odds_24 : decode cX6_odds 24 = .ok (.iload_n 3, 1) := by decide +kernel
theorem dX6_odds_25 : decode cX6_odds 25 = .ok (.bipush 6, 2) := by decide +kernel
theorem dX6_odds_27 : decode cX6_odds 27 = .ok (.if_icmp .gt 14, 3) := by decide +kernel
theorem dX6_odds_30 : decode cX6_odds 30 = .ok (.iload 4, 2) := by decide +kernel
theorem dX6_odds_32 : decode cX6_odds 32 = .ok (.ifCond .lt 9, 3) := by decide +kernel
theorem dX6_odds_35 : decode cX6_odds 35 = .ok (.iload 4, 2) := by decide +kernel
theorem dX6_odds_37 : decode cX6_odds 37 = .ok (.iconst 1, 1) := by decide +kernel
theorem dX6_odds_38 : decode cX6_odds 38 = .ok (.if_icmp .le 5, 3) := by decide +kernel
theorem dX6_odds_41 : decode cX6_odds 41 = .ok (.iconst (-1), 1) := by decide +kernel
theorem dX6_odds_42 : decode cX6_odds 42 = .ok (.ireturn, 1) := by decide +kernel
theorem dX6_odds_43 : decode cX6_odds 43 = .ok (.iconst 0, 1) := by decide +kernel
theorem dX6_odds_44 : decode cX6_odds 44 = .ok (.istore 5, 2) := by decide +kernel
theorem dX6_odds_46 : decode cX6_odds 46 = .ok (.iload_n 3, 1) := by decide +kernel
theorem dX6_odds_47 : decode cX6_odds 47 = .ok (.istore 6, 2) := by decide +kernel
theorem dX6_odds_49 : decode cX6_odds 49 = .ok (.iload 6, 2) := by decide +kernel
theorem dX6_odds_51 : decode cX6_odds 51 = .ok (.iload_n 2, 1) := by decide +kernel
theorem dX6_odds_52 : decode cX6_odds 52 = .ok (.if_icmp .gt 39, 3) := by decide +kernel
theorem dX6_odds_55 : decode cX6_odds 55 = .ok (.iload 5, 2) := by decide +kernel
theorem dX6_odds_57 : decode cX6_odds 57 = .ok (.iload_n 2, 1) := by decide +kernel
theorem dX6_odds_58 : decode cX6_odds 58 = .ok (.iload 6, 2) := by decide +kernel
theorem dX6_odds_60 : decode cX6_odds 60 = .ok (.invokestatic 242, 3) := by decide +kernel
theorem dX6_odds_63 : decode cX6_odds 63 = .ok (.bipush 10, 2) := by decide +kernel
theorem dX6_odds_65 : decode cX6_odds 65 = .ok (.iload_n 1, 1) := by decide +kernel
theorem dX6_odds_66 : decode cX6_odds 66 = .ok (.isub, 1) := by decide +kernel
theorem dX6_odds_67 : decode cX6_odds 67 = .ok (.iload 6, 2) := by decide +kernel
theorem dX6_odds_69 : decode cX6_odds 69 = .ok (.invokestatic 245, 3) := by decide +kernel
theorem dX6_odds_72 : decode cX6_odds 72 = .ok (.imul, 1) := by decide +kernel
theorem dX6_odds_73 : decode cX6_odds 73 = .ok (.iload_n 1, 1) := by decide +kernel
theorem dX6_odds_74 : decode cX6_odds 74 = .ok (.iload_n 2, 1) := by decide +kernel
theorem dX6_odds_75 : decode cX6_odds 75 = .ok (.iload 6, 2) := by decide +kernel
theorem dX6_odds_77 : decode cX6_odds 77 = .ok (.isub, 1) := by decide +kernel
theorem dX6_odds_78 : decode cX6_odds 78 = .ok (.invokestatic 245, 3) := by decide +kernel
theorem dX6_odds_81 : decode cX6_odds 81 = .ok (.imul, 1) := by decide +kernel
theorem dX6_odds_82 : decode cX6_odds 82 = .ok (.iadd, 1) := by decide +kernel
theorem dX6_odds_83 : decode cX6_odds 83 = .ok (.istore 5, 2) := by decide +kernel
theorem dX6_odds_85 : decode cX6_odds 85 = .ok (.iinc 6 1, 3) := by decide +kernel
theorem dX6_odds_88 : decode cX6_odds 88 = .ok (.goto (-39), 3) := by decide +kernel
theorem dX6_odds_91 : decode cX6_odds 91 = .ok (.iload 5, 2) := by decide +kernel
theorem dX6_odds_93 : decode cX6_odds 93 = .ok (.bipush 10, 2) := by decide +kernel
theorem dX6_odds_95 : decode cX6_odds 95 = .ok (.iload_n 2, 1) := by decide +kernel
theorem dX6_odds_96 : decode cX6_odds 96 = .ok (.invokestatic 245, 3) := by decide +kernel
theorem dX6_odds_99 : decode cX6_odds 99 = .ok (.iload 4, 2) := by decide +kernel
theorem dX6_odds_101 : decode cX6_odds 101 = .ok (.invokestatic 190, 3) := by decide +kernel
theorem dX6_odds_104 : decode cX6_odds 104 = .ok (.ireturn, 1) := by decide +kernel
theorem dX6_rate_0 : decode cX6_rate 0 = .ok (.aload_n 0, 1) := by decide +kernel
theorem dX6_rate_1 : decode cX6_rate 1 = .ok (.iload_n 2, 1) := by decide +kernel
theorem dX6_rate_2 : decode cX6_rate 2 = .ok (.invokevirtual 91, 3) := by decide +kernel
theorem dX6_rate_5 : decode cX6_rate 5 = .ok (.ifCond .ne 6, 3) := by decide +kernel
theorem dX6_rate_8 : decode cX6_rate 8 = .ok (.ldc 248, 2) := by decide +kernel
theorem dX6_rate_10 : decode cX6_rate 10 = .ok (.ireturn, 1) := by decide +kernel
theorem dX6_rate_11 : decode cX6_rate 11 = .ok (.iload_n 1, 1) := by decide +kernel
theorem dX6_rate_12 : decode cX6_rate 12 = .ok (.tableswitch 76 0 5 #[40, 46, 52, 58, 64, 70], 40) := by decide +kernel
theorem dX6_rate_52 : decode cX6_rate 52 = .ok (.aload_n 0, 1) := by decide +kernel
theorem dX6_rate_53 : decode cX6_rate 53 = .ok (.iload_n 2, 1) := by decide +kernel
theorem dX6_rate_54 : decode cX6_rate 54 = .ok (.invokevirtual 249, 3) := by decide +kernel
theorem dX6_rate_57 : decode cX6_rate 57 = .ok (.ireturn, 1) := by decide +kernel
theorem dX6_rate_58 : decode cX6_rate 58 = .ok (.aload_n 0, 1) := by decide +kernel
theorem dX6_rate_59 : decode cX6_rate 59 = .ok (.iload_n 2, 1) := by decide +kernel
theorem dX6_rate_60 : decode cX6_rate 60 = .ok (.invokevirtual 252, 3) := by decide +kernel
theorem dX6_rate_63 : decode cX6_rate 63 = .ok (.ireturn, 1) := by decide +kernel
theorem dX6_rate_64 : decode cX6_rate 64 = .ok (.aload_n 0, 1) := by decide +kernel
theorem dX6_rate_65 : decode cX6_rate 65 = .ok (.iload_n 2, 1) := by decide +kernel
theorem dX6_rate_66 : decode cX6_rate 66 = .ok (.invokevirtual 255, 3) := by decide +kernel
theorem dX6_rate_69 : decode cX6_rate 69 = .ok (.ireturn, 1) := by decide +kernel
theorem dX6_rate_70 : decode cX6_rate 70 = .ok (.aload_n 0, 1) := by decide +kernel
theorem dX6_rate_71 : decode cX6_rate 71 = .ok (.iload_n 2, 1) := by decide +kernel
theorem dX6_rate_72 : decode cX6_rate 72 = .ok (.invokevirtual 258, 3) := by decide +kernel
theorem dX6_rate_75 : decode cX6_rate 75 = .ok (.ireturn, 1) := by decide +kernel
theorem dX6_rate_76 : decode cX6_rate 76 = .ok (.aload_n 0, 1) := by decide +kernel
theorem dX6_rate_77 : decode cX6_rate 77 = .ok (.iload_n 2, 1) := by decide +kernel
theorem dX6_rate_78 : decode cX6_rate 78 = .ok (.invokevirtual 261, 3) := by decide +kernel
theorem dX6_rate_81 : decode cX6_rate 81 = .ok (.ireturn, 1) := by decide +kernel
theorem dX6_rate_82 : decode cX6_rate 82 = .ok (.aload_n 0, 1) := by decide +kernel
theorem dX6_rate_83 : decode cX6_rate 83 = .ok (.iload_n 2, 1) := by decide +kernel
theorem dX6_rate_84 : decode cX6_rate 84 = .ok (.invokevirtual 264, 3) := by decide +kernel
theorem dX6_rate_87 : decode cX6_rate 87 = .ok (.ireturn, 1) := by decide +kernel
theorem dX6_rate_88 : decode cX6_rate 88 = .ok (.ldc 248, 2) := by decide +kernel
theorem dX6_rate_90 : decode cX6_rate 90 = .ok (.ireturn, 1) := by decide +kernel
theorem dX6_keep_0 : decode cX6_keep 0 = .ok (.iload_n 1, 1) := by decide +kernel
theorem dX6_keep_1 : decode cX6_keep 1 = .ok (.invokestatic 267, 3) := by decide +kernel
theorem dX6_keep_4 : decode cX6_keep 4 = .ok (.ifCond .ne 5, 3) := by decide +kernel
theorem dX6_keep_7 : decode cX6_keep 7 = .ok (.iconst (-1), 1) := by decide +kernel
theorem dX6_keep_8 : decode cX6_keep 8 = .ok (.ireturn, 1) := by decide +kernel
theorem dX6_keep_9 : decode cX6_keep 9 = .ok (.aload_n 0, 1) := by decide +kernel
theorem dX6_keep_10 : decode cX6_keep 10 = .ok (.getfield 42, 3) := by decide +kernel
theorem dX6_keep_13 : decode cX6_keep 13 = .ok (.iload_n 1, 1) := by decide +kernel
theorem dX6_keep_14 : decode cX6_keep 14 = .ok (.aload_n 0, 1) := by decide +kernel
theorem dX6_keep_15 : decode cX6_keep 15 = .ok (.getfield 29, 3) := by decide +kernel
theorem dX6_keep_18 : decode cX6_keep 18 = .ok (.invokevirtual 270, 3) := by decide +kernel
theorem dX6_keep_21 : decode cX6_keep 21 = .ok (.aload_n 0, 1) := by decide +kernel
theorem dX6_keep_22 : decode cX6_keep 22 = .ok (.getfield 45, 3) := by decide +kernel
theorem dX6_keep_25 : decode cX6_keep 25 = .ok (.iload_n 1, 1) := by decide +kernel
theorem dX6_keep_26 : decode cX6_keep 26 = .ok (.iconst 1, 1) := by decide +kernel
theorem dX6_keep_27 : decode cX6_keep 27 = .ok (.bastore, 1) := by decide +kernel
theorem dX6_keep_28 : decode cX6_keep 28 = .ok (.aload_n 0, 1) := by decide +kernel
theorem dX6_keep_29 : decode cX6_keep 29 = .ok (.getfield 29, 3) := by decide +kernel
theorem dX6_keep_32 : decode cX6_keep 32 = .ok (.getfield 121, 3) := by decide +kernel
theorem dX6_keep_35 : decode cX6_keep 35 = .ok (.ireturn, 1) := by decide +kernel
theorem dX6_back_0 : decode cX6_back 0 = .ok (.iload_n 1, 1) := by decide +kernel
theorem dX6_back_1 : decode cX6_back 1 = .ok (.invokestatic 267, 3) := by decide +kernel
theorem dX6_back_4 : decode cX6_back 4 = .ok (.ifCond .ne 5, 3) := by decide +kernel
theorem dX6_back_7 : decode cX6_back 7 = .ok (.iconst (-1), 1) := by decide +kernel
theorem dX6_back_8 : decode cX6_back 8 = .ok (.ireturn, 1) := by decide +kernel
theorem dX6_back_9 : decode cX6_back 9 = .ok (.aload_n 0, 1) := by decide +kernel
theorem dX6_back_10 : decode cX6_back 10 = .ok (.getfield 45, 3) := by decide +kernel
theorem dX6_back_13 : decode cX6_back 13 = .ok (.iload_n 1, 1) := by decide +kernel
theorem dX6_back_14 : decode cX6_back 14 = .ok (.baload, 1) := by decide +kernel
theorem dX6_back_15 : decode cX6_back 15 = .ok (.ifCond .ne 6, 3) := by decide +kernel
theorem dX6_back_18 : decode cX6_back 18 = .ok (.bipush (-2), 2) := by decide +kernel
theorem dX6_back_20 : decode cX6_back 20 = .ok (.ireturn, 1) := by decide +kernel
theorem dX6_back_21 : decode cX6_back 21 = .ok (.aload_n 0, 1) := by decide +kernel
theorem dX6_back_22 : decode cX6_back 22 = .ok (.getfield 42, 3) := by decide +kernel
theorem dX6_back_25 : decode cX6_back 25 = .ok (.iload_n 1, 1) := by decide +kernel
theorem dX6_back_26 : decode cX6_back 26 = .ok (.aload_n 0, 1) := by decide +kernel
theorem dX6_back_27 : decode cX6_back 27 = .ok (.getfield 29, 3) := by decide +kernel
theorem dX6_back_30 : decode cX6_back 30 = .ok (.invokevirtual 176, 3) := by decide +kernel
theorem dX6_back_33 : decode cX6_back 33 = .ok (.aload_n 0, 1) := by decide +kernel
theorem dX6_back_34 : decode cX6_back 34 = .ok (.invokevirtual 273, 3) := by decide +kernel
theorem dX6_back_37 : decode cX6_back 37 = .ok (.aload_n 0, 1) := by decide +kernel
theorem dX6_back_38 : decode cX6_back 38 = .ok (.getfield 29, 3) := by decide +kernel
theorem dX6_back_41 : decode cX6_back 41 = .ok (.getfield 121, 3) := by decide +kernel
theorem dX6_back_44 : decode cX6_back 44 = .ok (.ireturn, 1) := by decide +kernel
theorem dX6_count_0 : decode cX6_count 0 = .ok (.iload_n 1, 1) := by decide +kernel
theorem dX6_count_1 : decode cX6_count 1 = .ok (.tableswitch 108 0 7 #[47, 55, 63, 71, 79, 87, 95, 100], 47) := by decide +kernel
theorem dX6_count_48 : decode cX6_count 48 = .ok (.aload_n 0, 1) := by decide +kernel
theorem dX6_count_49 : decode cX6_count 49 = .ok (.getfield 19, 3) := by decide +kernel
theorem dX6_count_52 : decode cX6_count 52 = .ok (.invokevirtual 219, 3) := by decide +kernel
theorem dX6_count_55 : decode cX6_count 55 = .ok (.ireturn, 1) := by decide +kernel
theorem dX6_count_56 : decode cX6_count 56 = .ok (.aload_n 0, 1) := by decide +kernel
theorem dX6_count_57 : decode cX6_count 57 = .ok (.getfield 19, 3) := by decide +kernel
theorem dX6_count_60 : decode cX6_count 60 = .ok (.invokevirtual 203, 3) := by decide +kernel
theorem dX6_count_63 : decode cX6_count 63 = .ok (.ireturn, 1) := by decide +kernel
theorem dX6_count_64 : decode cX6_count 64 = .ok (.aload_n 0, 1) := by decide +kernel
theorem dX6_count_65 : decode cX6_count 65 = .ok (.getfield 19, 3) := by decide +kernel
theorem dX6_count_68 : decode cX6_count 68 = .ok (.invokevirtual 180, 3) := by decide +kernel
theorem dX6_count_71 : decode cX6_count 71 = .ok (.ireturn, 1) := by decide +kernel
theorem dX6_count_72 : decode cX6_count 72 = .ok (.aload_n 0, 1) := by decide +kernel
theorem dX6_count_73 : decode cX6_count 73 = .ok (.getfield 19, 3) := by decide +kernel
theorem dX6_count_76 : decode cX6_count 76 = .ok (.invokevirtual 155, 3) := by decide +kernel
theorem dX6_count_79 : decode cX6_count 79 = .ok (.ireturn, 1) := by decide +kernel
theorem dX6_count_80 : decode cX6_count 80 = .ok (.aload_n 0, 1) := by decide +kernel
theorem dX6_count_81 : decode cX6_count 81 = .ok (.getfield 19, 3) := by decide +kernel
theorem dX6_count_84 : decode cX6_count 84 = .ok (.invokevirtual 158, 3) := by decide +kernel
theorem dX6_count_87 : decode cX6_count 87 = .ok (.ireturn, 1) := by decide +kernel
theorem dX6_count_88 : decode cX6_count 88 = .ok (.aload_n 0, 1) := by decide +kernel
theorem dX6_count_89 : decode cX6_count 89 = .ok (.getfield 19, 3) := by decide +kernel
theorem dX6_count_92 : decode cX6_count 92 = .ok (.invokevirtual 276, 3) := by decide +kernel
theorem dX6_count_95 : decode cX6_count 95 = .ok (.ireturn, 1) := by decide +kernel
theorem dX6_count_96 : decode cX6_count 96 = .ok (.aload_n 0, 1) := by decide +kernel
theorem dX6_count_97 : decode cX6_count 97 = .ok (.getfield 236, 3) := by decide +kernel
theorem dX6_count_100 : decode cX6_count 100 = .ok (.ireturn, 1) := by decide +kernel
theorem dX6_count_101 : decode cX6_count 101 = .ok (.aload_n 0, 1) := by decide +kernel
theorem dX6_count_102 : decode cX6_count 102 = .ok (.getfield 10, 3) := by decide +kernel
theorem dX6_count_105 : decode cX6_count 105 = .ok (.invokevirtual 80, 3) := by decide +kernel
theorem dX6_count_108 : decode cX6_count 108 = .ok (.ireturn, 1) := by decide +kernel
theorem dX6_count_109 : decode cX6_count 109 = .ok (.iconst (-1), 1) := by decide +kernel
theorem dX6_count_110 : decode cX6_count 110 = .ok (.ireturn, 1) := by decide +kernel
theorem dX6_trace_0 : decode cX6_trace 0 = .ok (.aload_n 0, 1) := by decide +kernel
theorem dX6_trace_1 : decode cX6_trace 1 = .ok (.getfield 279, 3) := by decide +kernel
theorem dX6_trace_4 : decode cX6_trace 4 = .ok (.lreturn, 1) := by decide +kernel
theorem dX6_isPart_0 : decode cX6_isPart 0 = .ok (.iload_n 1, 1) := by decide +kernel
theorem dX6_isPart_1 : decode cX6_isPart 1 = .ok (.ifCond .lt 18, 3) := by decide +kernel
theorem dX6_isPart_4 : decode cX6_isPart 4 = .ok (.iload_n 1, 1) := by decide +kernel
theorem dX6_isPart_5 : decode cX6_isPart 5 = .ok (.aload_n 0, 1) := by decide +kernel
theorem dX6_isPart_6 : decode cX6_isPart 6 = .ok (.getfield 19, 3) := by decide +kernel
theorem dX6_isPart_9 : decode cX6_isPart 9 = .ok (.invokevirtual 219, 3) := by decide +kernel
theorem dX6_isPart_12 : decode cX6_isPart 12 = .ok (.if_icmp .ge 7, 3) := by decide +kernel
theorem dX6_isPart_15 : decode cX6_isPart 15 = .ok (.iconst 1, 1) := by decide +kernel
theorem dX6_isPart_16 : decode cX6_isPart 16 = .ok (.goto 4, 3) := by decide +kernel
theorem dX6_isPart_19 : decode cX6_isPart 19 = .ok (.iconst 0, 1) := by decide +kernel
theorem dX6_isPart_20 : decode cX6_isPart 20 = .ok (.ireturn, 1) := by decide +kernel
theorem dX6_isOrder_0 : decode cX6_isOrder 0 = .ok (.iload_n 1, 1) := by decide +kernel
theorem dX6_isOrder_1 : decode cX6_isOrder 1 = .ok (.ifCond .lt 18, 3) := by decide +kernel
theorem dX6_isOrder_4 : decode cX6_isOrder 4 = .ok (.iload_n 1, 1) := by decide +kernel
theorem dX6_isOrder_5 : decode cX6_isOrder 5 = .ok (.aload_n 0, 1) := by decide +kernel
theorem dX6_isOrder_6 : decode cX6_isOrder 6 = .ok (.getfield 19, 3) := by decide +kernel
theorem dX6_isOrder_9 : decode cX6_isOrder 9 = .ok (.invokevirtual 203, 3) := by decide +kernel
theorem dX6_isOrder_12 : decode cX6_isOrder 12 = .ok (.if_icmp .ge 7, 3) := by decide +kernel
theorem dX6_isOrder_15 : decode cX6_isOrder 15 = .ok (.iconst 1, 1) := by decide +kernel
theorem dX6_isOrder_16 : decode cX6_isOrder 16 = .ok (.goto 4, 3) := by decide +kernel
theorem dX6_isOrder_19 : decode cX6_isOrder 19 = .ok (.iconst 0, 1) := by decide +kernel
theorem dX6_isOrder_20 : decode cX6_isOrder 20 = .ok (.ireturn, 1) := by decide +kernel
theorem dX6_isSide_0 : decode cX6_isSide 0 = .ok (.iload_n 0, 1) := by decide +kernel
theorem dX6_isSide_1 : decode cX6_isSide 1 = .ok (.ifCond .lt 13, 3) := by decide +kernel
theorem dX6_isSide_4 : decode cX6_isSide 4 = .ok (.iload_n 0, 1) := by decide +kernel
theorem dX6_isSide_5 : decode cX6_isSide 5 = .ok (.bipush 8, 2) := by decide +kernel
theorem dX6_isSide_7 : decode cX6_isSide 7 = .ok (.if_icmp .ge 7, 3) := by decide +kernel
theorem dX6_isSide_10 : decode cX6_isSide 10 = .ok (.iconst 1, 1) := by decide +kernel
theorem dX6_isSide_11 : decode cX6_isSide 11 = .ok (.goto 4, 3) := by decide +kernel
theorem dX6_isSide_14 : decode cX6_isSide 14 = .ok (.iconst 0, 1) := by decide +kernel
theorem dX6_isSide_15 : decode cX6_isSide 15 = .ok (.ireturn, 1) := by decide +kernel
theorem dX6_isImage_0 : decode cX6_isImage 0 = .ok (.iload_n 0, 1) := by decide +kernel
theorem dX6_isImage_1 : decode cX6_isImage 1 = .ok (.ifCond .lt 12, 3) := by decide +kernel
theorem dX6_isImage_4 : decode cX6_isImage 4 = .ok (.iload_n 0, 1) := by decide +kernel
theorem dX6_isImage_5 : decode cX6_isImage 5 = .ok (.iconst 2, 1) := by decide +kernel
theorem dX6_isImage_6 : decode cX6_isImage 6 = .ok (.if_icmp .ge 7, 3) := by decide +kernel
theorem dX6_isImage_9 : decode cX6_isImage 9 = .ok (.iconst 1, 1) := by decide +kernel
theorem dX6_isImage_10 : decode cX6_isImage 10 = .ok (.goto 4, 3) := by decide +kernel
theorem dX6_isImage_13 : decode cX6_isImage 13 = .ok (.iconst 0, 1) := by decide +kernel
theorem dX6_isImage_14 : decode cX6_isImage 14 = .ok (.ireturn, 1) := by decide +kernel
theorem dX6_isLate_0 : decode cX6_isLate 0 = .ok (.aload_n 0, 1) := by decide +kernel
theorem dX6_isLate_1 : decode cX6_isLate 1 = .ok (.getfield 29, 3) := by decide +kernel
theorem dX6_isLate_4 : decode cX6_isLate 4 = .ok (.getfield 121, 3) := by decide +kernel
theorem dX6_isLate_7 : decode cX6_isLate 7 = .ok (.aload_n 0, 1) := by decide +kernel
theorem dX6_isLate_8 : decode cX6_isLate 8 = .ok (.getfield 19, 3) := by decide +kernel
theorem dX6_isLate_11 : decode cX6_isLate 11 = .ok (.iconst 2, 1) := by decide +kernel
theorem dX6_isLate_12 : decode cX6_isLate 12 = .ok (.iload_n 1, 1) := by decide +kernel
theorem dX6_isLate_13 : decode cX6_isLate 13 = .ok (.invokevirtual 95, 3) := by decide +kernel
theorem dX6_isLate_16 : decode cX6_isLate 16 = .ok (.if_icmp .le 7, 3) := by decide +kernel
theorem dX6_isLate_19 : decode cX6_isLate 19 = .ok (.iconst 1, 1) := by decide +kernel
theorem dX6_isLate_20 : decode cX6_isLate 20 = .ok (.goto 4, 3) := by decide +kernel
theorem dX6_isLate_23 : decode cX6_isLate 23 = .ok (.iconst 0, 1) := by decide +kernel
theorem dX6_isLate_24 : decode cX6_isLate 24 = .ok (.ireturn, 1) := by decide +kernel
theorem dX6_startAnew_0 : decode cX6_startAnew 0 = .ok (.aload_n 0, 1) := by decide +kernel
theorem dX6_startAnew_1 : decode cX6_startAnew 1 = .ok (.getfield 29, 3) := by decide +kernel
theorem dX6_startAnew_4 : decode cX6_startAnew 4 = .ok (.aload_n 0, 1) := by decide +kernel
theorem dX6_startAnew_5 : decode cX6_startAnew 5 = .ok (.getfield 19, 3) := by decide +kernel
theorem dX6_startAnew_8 : decode cX6_startAnew 8 = .ok (.invokevirtual 283, 3) := by decide +kernel
theorem dX6_startAnew_11 : decode cX6_startAnew 11 = .ok (.aload_n 0, 1) := by decide +kernel
theorem dX6_startAnew_12 : decode cX6_startAnew 12 = .ok (.invokevirtual 273, 3) := by decide +kernel
theorem dX6_startAnew_15 : decode cX6_startAnew 15 = .ok (.aload_n 0, 1) := by decide +kernel
theorem dX6_startAnew_16 : decode cX6_startAnew 16 = .ok (.iconst 0, 1) := by decide +kernel
theorem dX6_startAnew_17 : decode cX6_startAnew 17 = .ok (.putfield 236, 3) := by decide +kernel
theorem dX6_startAnew_20 : decode cX6_startAnew 20 = .ok (.iconst 0, 1) := by decide +kernel
theorem dX6_startAnew_21 : decode cX6_startAnew 21 = .ok (.istore_n 1, 1) := by decide +kernel
theorem dX6_startAnew_22 : decode cX6_startAnew 22 = .ok (.iload_n 1, 1) := by decide +kernel
theorem dX6_startAnew_23 : decode cX6_startAnew 23 = .ok (.aload_n 0, 1) := by decide +kernel
theorem dX6_startAnew_24 : decode cX6_startAnew 24 = .ok (.getfield 45, 3) := by decide +kernel
theorem dX6_startAnew_27 : decode cX6_startAnew 27 = .ok (.arraylength, 1) := by decide +kernel
theorem dX6_startAnew_28 : decode cX6_startAnew 28 = .ok (.if_icmp .ge 16, 3) := by decide +kernel
theorem dX6_startAnew_31 : decode cX6_startAnew 31 = .ok (.aload_n 0, 1) := by decide +kernel
theorem dX6_startAnew_32 : decode cX6_startAnew 32 = .ok (.getfield 45, 3) := by decide +kernel
theorem dX6_startAnew_35 : decode cX6_startAnew 35 = .ok (.iload_n 1, 1) := by decide +kernel
theorem dX6_startAnew_36 : decode cX6_startAnew 36 = .ok (.iconst 0, 1) := by decide +kernel
theorem dX6_startAnew_37 : decode cX6_startAnew 37 = .ok (.bastore, 1) := by decide +kernel
theorem dX6_startAnew_38 : decode cX6_startAnew 38 = .ok (.iinc 1 1, 3) := by decide +kernel
theorem dX6_startAnew_41 : decode cX6_startAnew 41 = .ok (.goto (-19), 3) := by decide +kernel
theorem dX6_startAnew_44 : decode cX6_startAnew 44 = .ok (.return_, 1) := by decide +kernel
theorem dX6_forgetPast_0 : decode cX6_forgetPast 0 = .ok (.aload_n 0, 1) := by decide +kernel
theorem dX6_forgetPast_1 : decode cX6_forgetPast 1 = .ok (.iconst 0, 1) := by decide +kernel
theorem dX6_forgetPast_2 : decode cX6_forgetPast 2 = .ok (.putfield 143, 3) := by decide +kernel
theorem dX6_forgetPast_5 : decode cX6_forgetPast 5 = .ok (.aload_n 0, 1) := by decide +kernel
theorem dX6_forgetPast_6 : decode cX6_forgetPast 6 = .ok (.iconst 0, 1) := by decide +kernel
theorem dX6_forgetPast_7 : decode cX6_forgetPast 7 = .ok (.putfield 173, 3) := by decide +kernel
theorem dX6_forgetPast_10 : decode cX6_forgetPast 10 = .ok (.return_, 1) := by decide +kernel
theorem dX6_remember_0 : decode cX6_remember 0 = .ok (.aload_n 0, 1) := by decide +kernel
theorem dX6_remember_1 : decode cX6_remember 1 = .ok (.getfield 38, 3) := by decide +kernel
theorem dX6_remember_4 : decode cX6_remember 4 = .ok (.aload_n 0, 1) := by decide +kernel
theorem dX6_remember_5 : decode cX6_remember 5 = .ok (.getfield 173, 3) := by decide +kernel
theorem dX6_remember_8 : decode cX6_remember 8 = .ok (.aload_n 0, 1) := by decide +kernel
theorem dX6_remember_9 : decode cX6_remember 9 = .ok (.getfield 29, 3) := by decide +kernel
theorem dX6_remember_12 : decode cX6_remember 12 = .ok (.invokevirtual 270, 3) := by decide +kernel
theorem dX6_remember_15 : decode cX6_remember 15 = .ok (.aload_n 0, 1) := by decide +kernel
theorem dX6_remember_16 : decode cX6_remember 16 = .ok (.aload_n 0, 1) := by decide +kernel
theorem dX6_remember_17 : decode cX6_remember 17 = .ok (.getfield 173, 3) := by decide +kernel
theorem dX6_remember_20 : decode cX6_remember 20 = .ok (.iconst 1, 1) := by decide +kernel
theorem dX6_remember_21 : decode cX6_remember 21 = .ok (.iadd, 1) := by decide +kernel
theorem dX6_remember_22 : decode cX6_remember 22 = .ok (.bipush 10, 2) := by decide +kernel
theorem dX6_remember_24 : decode cX6_remember 24 = .ok (.if_icmp .ge 12, 3) := by decide +kernel
theorem dX6_remember_27 : decode cX6_remember 27 = .ok (.aload_n 0, 1) := by decide +kernel
theorem dX6_remember_28 : decode cX6_remember 28 = .ok (.getfield 173, 3) := by decide +kernel
theorem dX6_remember_31 : decode cX6_remember 31 = .ok (.iconst 1, 1) := by decide +kernel
theorem dX6_remember_32 : decode cX6_remember 32 = .ok (.iadd, 1) := by decide +kernel
theorem dX6_remember_33 : decode cX6_remember 33 = .ok (.goto 4, 3) := by decide +kernel
theorem dX6_remember_36 : decode cX6_remember 36 = .ok (.iconst 0, 1) := by decide +kernel
theorem dX6_remember_37 : decode cX6_remember 37 = .ok (.putfield 173, 3) := by decide +kernel
theorem dX6_remember_40 : decode cX6_remember 40 = .ok (.aload_n 0, 1) := by decide +kernel
theorem dX6_remember_41 : decode cX6_remember 41 = .ok (.bipush 10, 2) := by decide +kernel
theorem dX6_remember_43 : decode cX6_remember 43 = .ok (.aload_n 0, 1) := by decide +kernel
theorem dX6_remember_44 : decode cX6_remember 44 = .ok (.getfield 143, 3) := by decide +kernel
theorem dX6_remember_47 : decode cX6_remember 47 = .ok (.iconst 1, 1) := by decide +kernel
theorem dX6_remember_48 : decode cX6_remember 48 = .ok (.iadd, 1) := by decide +kernel
theorem dX6_remember_49 : decode cX6_remember 49 = .ok (.invokestatic 287, 3) := by decide +kernel
theorem dX6_remember_52 : decode cX6_remember 52 = .ok (.putfield 143, 3) := by decide +kernel
theorem dX6_remember_55 : decode cX6_remember 55 = .ok (.return_, 1) := by decide +kernel
theorem dX6_giftOf_0 : decode cX6_giftOf 0 = .ok (.aload_n 0, 1) := by decide +kernel
theorem dX6_giftOf_1 : decode cX6_giftOf 1 = .ok (.getfield 19, 3) := by decide +kernel
theorem dX6_giftOf_4 : decode cX6_giftOf 4 = .ok (.iconst 0, 1) := by decide +kernel
theorem dX6_giftOf_5 : decode cX6_giftOf 5 = .ok (.iload_n 1, 1) := by decide +kernel
theorem dX6_giftOf_6 : decode cX6_giftOf 6 = .ok (.invokevirtual 95, 3) := by decide +kernel
theorem dX6_giftOf_9 : decode cX6_giftOf 9 = .ok (.aload_n 0, 1) := by decide +kernel
theorem dX6_giftOf_10 : decode cX6_giftOf 10 = .ok (.getfield 29, 3) := by decide +kernel
theorem dX6_giftOf_13 : decode cX6_giftOf 13 = .ok (.iload_n 1, 1) := by decide +kernel
theorem dX6_giftOf_14 : decode cX6_giftOf 14 = .ok (.invokevirtual 99, 3) := by decide +kernel
theorem dX6_giftOf_17 : decode cX6_giftOf 17 = .ok (.aload_n 0, 1) := by decide +kernel
theorem dX6_giftOf_18 : decode cX6_giftOf 18 = .ok (.getfield 19, 3) := by decide +kernel
theorem dX6_giftOf_21 : decode cX6_giftOf 21 = .ok (.invokevirtual 180, 3) := by decide +kernel
theorem dX6_giftOf_24 : decode cX6_giftOf 24 = .ok (.invokestatic 183, 3) := by decide +kernel
theorem dX6_giftOf_27 : decode cX6_giftOf 27 = .ok (.ireturn, 1) := by decide +kernel
theorem dX6_gift_0 : decode cX6_gift 0 = .ok (.iload_n 1, 1) := by decide +kernel
theorem dX6_gift_1 : decode cX6_gift 1 = .ok (.iload_n 2, 1) := by decide +kernel
theorem dX6_gift_2 : decode cX6_gift 2 = .ok (.if_icmp .gt 9, 3) := by decide +kernel
theorem dX6_gift_5 : decode cX6_gift 5 = .ok (.iload_n 1, 1) := by decide +kernel
theorem dX6_gift_6 : decode cX6_gift 6 = .ok (.iconst 2, 1) := by decide +kernel
theorem dX6_gift_7 : decode cX6_gift 7 = .ok (.isub, 1) := by decide +kernel
theorem dX6_gift_8 : decode cX6_gift 8 = .ok (.goto 10, 3) := by decide +kernel
theorem dX6_gift_11 : decode cX6_gift 11 = .ok (.iload_n 2, 1) := by decide +kernel
theorem dX6_gift_12 : decode cX6_gift 12 = .ok (.iconst 2, 1) := by decide +kernel
theorem dX6_gift_13 : decode cX6_gift 13 = .ok (.isub, 1) := by decide +kernel
theorem dX6_gift_14 : decode cX6_gift 14 = .ok (.iload_n 1, 1) := by decide +kernel
theorem dX6_gift_15 : decode cX6_gift 15 = .ok (.iload_n 2, 1) := by decide +kernel
theorem dX6_gift_16 : decode cX6_gift 16 = .ok (.isub, 1) := by decide +kernel
theorem dX6_gift_17 : decode cX6_gift 17 = .ok (.isub, 1) := by decide +kernel
theorem dX6_gift_18 : decode cX6_gift 18 = .ok (.istore_n 3, 1) := by decide +kernel
theorem dX6_gift_19 : decode cX6_gift 19 = .ok (.iload_n 3, 1) := by decide +kernel
theorem dX6_gift_20 : decode cX6_gift 20 = .ok (.ifCond .le 9, 3) := by decide +kernel
theorem dX6_gift_23 : decode cX6_gift 23 = .ok (.iload_n 0, 1) := by decide +kernel
theorem dX6_gift_24 : decode cX6_gift 24 = .ok (.iload_n 3, 1) := by decide +kernel
theorem dX6_gift_25 : decode cX6_gift 25 = .ok (.imul, 1) := by decide +kernel
theorem dX6_gift_26 : decode cX6_gift 26 = .ok (.goto 4, 3) := by decide +kernel
theorem dX6_gift_29 : decode cX6_gift 29 = .ok (.iconst 0, 1) := by decide +kernel
theorem dX6_gift_30 : decode cX6_gift 30 = .ok (.ireturn, 1) := by decide +kernel
theorem dX6_giftsOf_0 : decode cX6_giftsOf 0 = .ok (.iconst 0, 1) := by decide +kernel
theorem dX6_giftsOf_1 : decode cX6_giftsOf 1 = .ok (.istore_n 2, 1) := by decide +kernel
theorem dX6_giftsOf_2 : decode cX6_giftsOf 2 = .ok (.iconst 0, 1) := by decide +kernel
theorem dX6_giftsOf_3 : decode cX6_giftsOf 3 = .ok (.istore_n 3, 1) := by decide +kernel
theorem dX6_giftsOf_4 : decode cX6_giftsOf 4 = .ok (.iload_n 3, 1) := by decide +kernel
theorem dX6_giftsOf_5 : decode cX6_giftsOf 5 = .ok (.aload_n 0, 1) := by decide +kernel
theorem dX6_giftsOf_6 : decode cX6_giftsOf 6 = .ok (.getfield 19, 3) := by decide +kernel
theorem dX6_giftsOf_9 : decode cX6_giftsOf 9 = .ok (.invokevirtual 219, 3) := by decide +kernel
theorem dX6_giftsOf_12 : decode cX6_giftsOf 12 = .ok (.if_icmp .ge 26, 3) := by decide +kernel
theorem dX6_giftsOf_15 : decode cX6_giftsOf 15 = .ok (.iload_n 1, 1) := by decide +kernel
theorem dX6_giftsOf_16 : decode cX6_giftsOf 16 = .ok (.iload_n 3, 1) := by decide +kernel
theorem dX6_giftsOf_17 : decode cX6_giftsOf 17 = .ok (.ishr, 1) := by decide +kernel
theorem dX6_giftsOf_18 : decode cX6_giftsOf 18 = .ok (.iconst 1, 1) := by decide +kernel
theorem dX6_giftsOf_19 : decode cX6_giftsOf 19 = .ok (.iand, 1) := by decide +kernel
theorem dX6_giftsOf_20 : decode cX6_giftsOf 20 = .ok (.iconst 1, 1) := by decide +kernel
theorem dX6_giftsOf_21 : decode cX6_giftsOf 21 = .ok (.if_icmp .ne 11, 3) := by decide +kernel
theorem dX6_giftsOf_24 : decode cX6_giftsOf 24 = .ok (.iload_n 2, 1) := by decide +kernel
theorem dX6_giftsOf_25 : decode cX6_giftsOf 25 = .ok (.aload_n 0, 1) := by decide +kernel
theorem dX6_giftsOf_26 : decode cX6_giftsOf 26 = .ok (.iload_n 3, 1) := by decide +kernel
theorem dX6_giftsOf_27 : decode cX6_giftsOf 27 = .ok (.invokevirtual 103, 3) := by decide +kernel
theorem dX6_giftsOf_30 : decode cX6_giftsOf 30 = .ok (.iadd, 1) := by decide +kernel
theorem dX6_giftsOf_31 : decode cX6_giftsOf 31 = .ok (.istore_n 2, 1) := by decide +kernel
theorem dX6_giftsOf_32 : decode cX6_giftsOf 32 = .ok (.iinc 3 1, 3) := by decide +kernel
theorem dX6_giftsOf_35 : decode cX6_giftsOf 35 = .ok (.goto (-31), 3) := by decide +kernel
theorem dX6_giftsOf_38 : decode cX6_giftsOf 38 = .ok (.iload_n 2, 1) := by decide +kernel
theorem dX6_giftsOf_39 : decode cX6_giftsOf 39 = .ok (.ireturn, 1) := by decide +kernel
theorem dX6_bestTurn_0 : decode cX6_bestTurn 0 = .ok (.iconst 1, 1) := by decide +kernel
theorem dX6_bestTurn_1 : decode cX6_bestTurn 1 = .ok (.istore_n 1, 1) := by decide +kernel
theorem dX6_bestTurn_2 : decode cX6_bestTurn 2 = .ok (.iconst 1, 1) := by decide +kernel
theorem dX6_bestTurn_3 : decode cX6_bestTurn 3 = .ok (.iconst 1, 1) := by decide +kernel
theorem dX6_bestTurn_4 : decode cX6_bestTurn 4 = .ok (.aload_n 0, 1) := by decide +kernel
theorem dX6_bestTurn_5 : decode cX6_bestTurn 5 = .ok (.getfield 19, 3) := by decide +kernel
theorem dX6_bestTurn_8 : decode cX6_bestTurn 8 = .ok (.invokevirtual 180, 3) := by decide +kernel
theorem dX6_bestTurn_11 : decode cX6_bestTurn 11 = .ok (.invokestatic 183, 3) := by decide +kernel
theorem dX6_bestTurn_14 : decode cX6_bestTurn 14 = .ok (.istore_n 2, 1) := by decide +kernel
theorem dX6_bestTurn_15 : decode cX6_bestTurn 15 = .ok (.iconst 2, 1) := by decide +kernel
theorem dX6_bestTurn_16 : decode cX6_bestTurn 16 = .ok (.istore_n 3, 1) := by decide +kernel
theorem dX6_bestTurn_17 : decode cX6_bestTurn 17 = .ok (.iload_n 3, 1) := by decide +kernel
theorem dX6_bestTurn_18 : decode cX6_bestTurn 18 = .ok (.bipush 30, 2) := by decide +kernel
theorem dX6_bestTurn_20 : decode cX6_bestTurn 20 = .ok (.if_icmp .gt 38, 3) := by decide +kernel
theorem dX6_bestTurn_23 : decode cX6_bestTurn 23 = .ok (.iconst 1, 1) := by decide +kernel
theorem dX6_bestTurn_24 : decode cX6_bestTurn 24 = .ok (.iload_n 3, 1) := by decide +kernel
theorem dX6_bestTurn_25 : decode cX6_bestTurn 25 = .ok (.aload_n 0, 1) := by decide +kernel
theorem dX6_bestTurn_26 : decode cX6_bestTurn 26 = .ok (.getfield 19, 3) := by decide +kernel
theorem dX6_bestTurn_29 : decode cX6_bestTurn 29 = .ok (.invokevirtual 180, 3) := by decide +kernel
theorem dX6_bestTurn_32 : decode cX6_bestTurn 32 = .ok (.invokestatic 183, 3) := by decide +kernel
theorem dX6_bestTurn_35 : decode cX6_bestTurn 35 = .ok (.istore 4, 2) := by decide +kernel
theorem dX6_bestTurn_37 : decode cX6_bestTurn 37 = .ok (.iload 4, 2) := by decide +kernel
theorem dX6_bestTurn_39 : decode cX6_bestTurn 39 = .ok (.iload_n 1, 1) := by decide +kernel
theorem dX6_bestTurn_40 : decode cX6_bestTurn 40 = .ok (.imul, 1) := by decide +kernel
theorem dX6_bestTurn_41 : decode cX6_bestTurn 41 = .ok (.iload_n 2, 1) := by decide +kernel
theorem dX6_bestTurn_42 : decode cX6_bestTurn 42 = .ok (.iload_n 3, 1) := by decide +kernel
theorem dX6_bestTurn_43 : decode cX6_bestTurn 43 = .ok (.imul, 1) := by decide +kernel
theorem dX6_bestTurn_44 : decode cX6_bestTurn 44 = .ok (.if_icmp .le 8, 3) := by decide +kernel
theorem dX6_bestTurn_47 : decode cX6_bestTurn 47 = .ok (.iload_n 3, 1) := by decide +kernel
theorem dX6_bestTurn_48 : decode cX6_bestTurn 48 = .ok (.istore_n 1, 1) := by decide +kernel
theorem dX6_bestTurn_49 : decode cX6_bestTurn 49 = .ok (.iload 4, 2) := by decide +kernel
theorem dX6_bestTurn_51 : decode cX6_bestTurn 51 = .ok (.istore_n 2, 1) := by decide +kernel
theorem dX6_bestTurn_52 : decode cX6_bestTurn 52 = .ok (.iinc 3 1, 3) := by decide +kernel
theorem dX6_bestTurn_55 : decode cX6_bestTurn 55 = .ok (.goto (-38), 3) := by decide +kernel
theorem dX6_bestTurn_58 : decode cX6_bestTurn 58 = .ok (.iload_n 1, 1) := by decide +kernel
theorem dX6_bestTurn_59 : decode cX6_bestTurn 59 = .ok (.ireturn, 1) := by decide +kernel
theorem dX6_coinsOf_0 : decode cX6_coinsOf 0 = .ok (.iconst 0, 1) := by decide +kernel
theorem dX6_coinsOf_1 : decode cX6_coinsOf 1 = .ok (.istore_n 2, 1) := by decide +kernel
theorem dX6_coinsOf_2 : decode cX6_coinsOf 2 = .ok (.iconst 0, 1) := by decide +kernel
theorem dX6_coinsOf_3 : decode cX6_coinsOf 3 = .ok (.istore_n 3, 1) := by decide +kernel
theorem dX6_coinsOf_4 : decode cX6_coinsOf 4 = .ok (.iload_n 3, 1) := by decide +kernel
theorem dX6_coinsOf_5 : decode cX6_coinsOf 5 = .ok (.aload_n 0, 1) := by decide +kernel
theorem dX6_coinsOf_6 : decode cX6_coinsOf 6 = .ok (.getfield 19, 3) := by decide +kernel
theorem dX6_coinsOf_9 : decode cX6_coinsOf 9 = .ok (.invokevirtual 203, 3) := by decide +kernel
theorem dX6_coinsOf_12 : decode cX6_coinsOf 12 = .ok (.if_icmp .ge 30, 3) := by decide +kernel
theorem dX6_coinsOf_15 : decode cX6_coinsOf 15 = .ok (.iload_n 1, 1) := by decide +kernel
theorem dX6_coinsOf_16 : decode cX6_coinsOf 16 = .ok (.iload_n 3, 1) := by decide +kernel
theorem dX6_coinsOf_17 : decode cX6_coinsOf 17 = .ok (.ishr, 1) := by decide +kernel
theorem dX6_coinsOf_18 : decode cX6_coinsOf 18 = .ok (.iconst 1, 1) := by decide +kernel
theorem dX6_coinsOf_19 : decode cX6_coinsOf 19 = .ok (.iand, 1) := by decide +kernel
theorem dX6_coinsOf_20 : decode cX6_coinsOf 20 = .ok (.iconst 1, 1) := by decide +kernel
theorem dX6_coinsOf_21 : decode cX6_coinsOf 21 = .ok (.if_icmp .ne 15, 3) := by decide +kernel
theorem dX6_coinsOf_24 : decode cX6_coinsOf 24 = .ok (.iload_n 2, 1) := by decide +kernel
theorem dX6_coinsOf_25 : decode cX6_coinsOf 25 = .ok (.aload_n 0, 1) := by decide +kernel
theorem dX6_coinsOf_26 : decode cX6_coinsOf 26 = .ok (.getfield 19, 3) := by decide +kernel
theorem dX6_coinsOf_29 : decode cX6_coinsOf 29 = .ok (.iconst 4, 1) := by decide +kernel
theorem dX6_coinsOf_30 : decode cX6_coinsOf 30 = .ok (.iload_n 3, 1) := by decide +kernel
theorem dX6_coinsOf_31 : decode cX6_coinsOf 31 = .ok (.invokevirtual 95, 3) := by decide +kernel
theorem dX6_coinsOf_34 : decode cX6_coinsOf 34 = .ok (.iadd, 1) := by decide +kernel
theorem dX6_coinsOf_35 : decode cX6_coinsOf 35 = .ok (.istore_n 2, 1) := by decide +kernel
theorem dX6_coinsOf_36 : decode cX6_coinsOf 36 = .ok (.iinc 3 1, 3) := by decide +kernel
theorem dX6_coinsOf_39 : decode cX6_coinsOf 39 = .ok (.goto (-35), 3) := by decide +kernel
theorem dX6_coinsOf_42 : decode cX6_coinsOf 42 = .ok (.iload_n 2, 1) := by decide +kernel
theorem dX6_coinsOf_43 : decode cX6_coinsOf 43 = .ok (.ireturn, 1) := by decide +kernel
theorem dX6_besomsDueBy_0 : decode cX6_besomsDueBy 0 = .ok (.iconst 0, 1) := by decide +kernel
theorem dX6_besomsDueBy_1 : decode cX6_besomsDueBy 1 = .ok (.istore_n 3, 1) := by decide +kernel
theorem dX6_besomsDueBy_2 : decode cX6_besomsDueBy 2 = .ok (.iconst 0, 1) := by decide +kernel
theorem dX6_besomsDueBy_3 : decode cX6_besomsDueBy 3 = .ok (.istore 4, 2) := by decide +kernel
theorem dX6_besomsDueBy_5 : decode cX6_besomsDueBy 5 = .ok (.iload 4, 2) := by decide +kernel
theorem dX6_besomsDueBy_7 : decode cX6_besomsDueBy 7 = .ok (.aload_n 0, 1) := by decide +kernel
theorem dX6_besomsDueBy_8 : decode cX6_besomsDueBy 8 = .ok (.getfield 19, 3) := by decide +kernel
theorem dX6_besomsDueBy_11 : decode cX6_besomsDueBy 11 = .ok (.invokevirtual 203, 3) := by decide +kernel
theorem dX6_besomsDueBy_14 : decode cX6_besomsDueBy 14 = .ok (.if_icmp .ge 46, 3) := by decide +kernel
theorem dX6_besomsDueBy_17 : decode cX6_besomsDueBy 17 = .ok (.iload_n 1, 1) := by decide +kernel
theorem dX6_besomsDueBy_18 : decode cX6_besomsDueBy 18 = .ok (.iload 4, 2) := by decide +kernel
theorem dX6_besomsDueBy_20 : decode cX6_besomsDueBy 20 = .ok (.ishr, 1) := by decide +kernel
theorem dX6_besomsDueBy_21 : decode cX6_besomsDueBy 21 = .ok (.iconst 1, 1) := by decide +kernel
theorem dX6_besomsDueBy_22 : decode cX6_besomsDueBy 22 = .ok (.iand, 1) := by decide +kernel
theorem dX6_besomsDueBy_23 : decode cX6_besomsDueBy 23 = .ok (.iconst 1, 1) := by decide +kernel
theorem dX6_besomsDueBy_24 : decode cX6_besomsDueBy 24 = .ok (.if_icmp .ne 30, 3) := by decide +kernel
theorem dX6_besomsDueBy_27 : decode cX6_besomsDueBy 27 = .ok (.aload_n 0, 1) := by decide +kernel
theorem dX6_besomsDueBy_28 : decode cX6_besomsDueBy 28 = .ok (.getfield 19, 3) := by decide +kernel
theorem dX6_besomsDueBy_31 : decode cX6_besomsDueBy 31 = .ok (.iconst 2, 1) := by decide +kernel
theorem dX6_besomsDueBy_32 : decode cX6_besomsDueBy 32 = .ok (.iload 4, 2) := by decide +kernel
theorem dX6_besomsDueBy_34 : decode cX6_besomsDueBy 34 = .ok (.invokevirtual 95, 3) := by decide +kernel
theorem dX6_besomsDueBy_37 : decode cX6_besomsDueBy 37 = .ok (.iload_n 2, 1) := by decide +kernel
theorem dX6_besomsDueBy_38 : decode cX6_besomsDueBy 38 = .ok (.if_icmp .gt 16, 3) := by decide +kernel
theorem dX6_besomsDueBy_41 : decode cX6_besomsDueBy 41 = .ok (.iload_n 3, 1) := by decide +kernel
theorem dX6_besomsDueBy_42 : decode cX6_besomsDueBy 42 = .ok (.aload_n 0, 1) := by decide +kernel
theorem dX6_besomsDueBy_43 : decode cX6_besomsDueBy 43 = .ok (.getfield 19, 3) := by decide +kernel
theorem dX6_besomsDueBy_46 : decode cX6_besomsDueBy 46 = .ok (.iconst 3, 1) := by decide +kernel
theorem dX6_besomsDueBy_47 : decode cX6_besomsDueBy 47 = .ok (.iload 4, 2) := by decide +kernel
theorem dX6_besomsDueBy_49 : decode cX6_besomsDueBy 49 = .ok (.invokevirtual 95, 3) := by decide +kernel
theorem dX6_besomsDueBy_52 : decode cX6_besomsDueBy 52 = .ok (.iadd, 1) := by decide +kernel
theorem dX6_besomsDueBy_53 : decode cX6_besomsDueBy 53 = .ok (.istore_n 3, 1) := by decide +kernel
theorem dX6_besomsDueBy_54 : decode cX6_besomsDueBy 54 = .ok (.iinc 4 1, 3) := by decide +kernel
theorem dX6_besomsDueBy_57 : decode cX6_besomsDueBy 57 = .ok (.goto (-52), 3) := by decide +kernel
theorem dX6_besomsDueBy_60 : decode cX6_besomsDueBy 60 = .ok (.iload_n 3, 1) := by decide +kernel
theorem dX6_besomsDueBy_61 : decode cX6_besomsDueBy 61 = .ok (.ireturn, 1) := by decide +kernel
theorem dX6_canBeKept_0 : decode cX6_canBeKept 0 = .ok (.aload_n 0, 1) := by decide +kernel
theorem dX6_canBeKept_1 : decode cX6_canBeKept 1 = .ok (.getfield 29, 3) := by decide +kernel
theorem dX6_canBeKept_4 : decode cX6_canBeKept 4 = .ok (.getfield 128, 3) := by decide +kernel
theorem dX6_canBeKept_7 : decode cX6_canBeKept 7 = .ok (.aload_n 0, 1) := by decide +kernel
theorem dX6_canBeKept_8 : decode cX6_canBeKept 8 = .ok (.getfield 19, 3) := by decide +kernel
theorem dX6_canBeKept_11 : decode cX6_canBeKept 11 = .ok (.invokevirtual 155, 3) := by decide +kernel
theorem dX6_canBeKept_14 : decode cX6_canBeKept 14 = .ok (.invokestatic 292, 3) := by decide +kernel
theorem dX6_canBeKept_17 : decode cX6_canBeKept 17 = .ok (.istore_n 2, 1) := by decide +kernel
theorem dX6_canBeKept_18 : decode cX6_canBeKept 18 = .ok (.iconst 0, 1) := by decide +kernel
theorem dX6_canBeKept_19 : decode cX6_canBeKept 19 = .ok (.istore_n 3, 1) := by decide +kernel
theorem dX6_canBeKept_20 : decode cX6_canBeKept 20 = .ok (.iload_n 3, 1) := by decide +kernel
theorem dX6_canBeKept_21 : decode cX6_canBeKept 21 = .ok (.aload_n 0, 1) := by decide +kernel
theorem dX6_canBeKept_22 : decode cX6_canBeKept 22 = .ok (.getfield 19, 3) := by decide +kernel
theorem dX6_canBeKept_25 : decode cX6_canBeKept 25 = .ok (.invokevirtual 203, 3) := by decide +kernel
theorem dX6_canBeKept_28 : decode cX6_canBeKept 28 = .ok (.if_icmp .ge 100, 3) := by decide +kernel
theorem dX6_canBeKept_31 : decode cX6_canBeKept 31 = .ok (.iload_n 1, 1) := by decide +kernel
theorem dX6_canBeKept_32 : decode cX6_canBeKept 32 = .ok (.iload_n 3, 1) := by decide +kernel
theorem dX6_canBeKept_33 : decode cX6_canBeKept 33 = .ok (.ishr, 1) := by decide +kernel
theorem dX6_canBeKept_34 : decode cX6_canBeKept 34 = .ok (.iconst 1, 1) := by decide +kernel
theorem dX6_canBeKept_35 : decode cX6_canBeKept 35 = .ok (.iand, 1) := by decide +kernel
theorem dX6_canBeKept_36 : decode cX6_canBeKept 36 = .ok (.ifCond .ne 6, 3) := by decide +kernel
theorem dX6_canBeKept_39 : decode cX6_canBeKept 39 = .ok (.goto 83, 3) := by decide +kernel
theorem dX6_canBeKept_42 : decode cX6_canBeKept 42 = .ok (.aload_n 0, 1) := by decide +kernel
theorem dX6_canBeKept_43 : decode cX6_canBeKept 43 = .ok (.getfield 19, 3) := by decide +kernel
theorem dX6_canBeKept_46 : decode cX6_canBeKept 46 = .ok (.iconst 2, 1) := by decide +kernel
theorem dX6_canBeKept_47 : decode cX6_canBeKept 47 = .ok (.iload_n 3, 1) := by decide +kernel
theorem dX6_canBeKept_48 : decode cX6_canBeKept 48 = .ok (.invokevirtual 95, 3) := by decide +kernel
theorem dX6_canBeKept_51 : decode cX6_canBeKept 51 = .ok (.istore 4, 2) := by decide +kernel
theorem dX6_canBeKept_53 : decode cX6_canBeKept 53 = .ok (.iload_n 2, 1) := by decide +kernel
theorem dX6_canBeKept_54 : decode cX6_canBeKept 54 = .ok (.aload_n 0, 1) := by decide +kernel
theorem dX6_canBeKept_55 : decode cX6_canBeKept 55 = .ok (.getfield 19, 3) := by decide +kernel
theorem dX6_canBeKept_58 : decode cX6_canBeKept 58 = .ok (.invokevirtual 158, 3) := by decide +kernel
theorem dX6_canBeKept_61 : decode cX6_canBeKept 61 = .ok (.iconst 0, 1) := by decide +kernel
theorem dX6_canBeKept_62 : decode cX6_canBeKept 62 = .ok (.iload 4, 2) := by decide +kernel
theorem dX6_canBeKept_64 : decode cX6_canBeKept 64 = .ok (.aload_n 0, 1) := by decide +kernel
theorem dX6_canBeKept_65 : decode cX6_canBeKept 65 = .ok (.getfield 29, 3) := by decide +kernel
theorem dX6_canBeKept_68 : decode cX6_canBeKept 68 = .ok (.getfield 121, 3) := by decide +kernel
theorem dX6_canBeKept_71 : decode cX6_canBeKept 71 = .ok (.isub, 1) := by decide +kernel
theorem dX6_canBeKept_72 : decode cX6_canBeKept 72 = .ok (.invokestatic 295, 3) := by decide +kernel
theorem dX6_canBeKept_75 : decode cX6_canBeKept 75 = .ok (.imul, 1) := by decide +kernel
theorem dX6_canBeKept_76 : decode cX6_canBeKept 76 = .ok (.invokestatic 287, 3) := by decide +kernel
theorem dX6_canBeKept_79 : decode cX6_canBeKept 79 = .ok (.istore 5, 2) := by decide +kernel
theorem dX6_canBeKept_81 : decode cX6_canBeKept 81 = .ok (.aload_n 0, 1) := by decide +kernel
theorem dX6_canBeKept_82 : decode cX6_canBeKept 82 = .ok (.getfield 29, 3) := by decide +kernel
theorem dX6_canBeKept_85 : decode cX6_canBeKept 85 = .ok (.iload_n 3, 1) := by decide +kernel
theorem dX6_canBeKept_86 : decode cX6_canBeKept 86 = .ok (.invokevirtual 109, 3) := by decide +kernel
theorem dX6_canBeKept_89 : decode cX6_canBeKept 89 = .ok (.ifCond .ne 31, 3) := by decide +kernel
theorem dX6_canBeKept_92 : decode cX6_canBeKept 92 = .ok (.aload_n 0, 1) := by decide +kernel
theorem dX6_canBeKept_93 : decode cX6_canBeKept 93 = .ok (.iload_n 3, 1) := by decide +kernel
theorem dX6_canBeKept_94 : decode cX6_canBeKept 94 = .ok (.invokevirtual 164, 3) := by decide +kernel
theorem dX6_canBeKept_97 : decode cX6_canBeKept 97 = .ok (.ifCond .ne 23, 3) := by decide +kernel
theorem dX6_canBeKept_100 : decode cX6_canBeKept 100 = .ok (.aload_n 0, 1) := by decide +kernel
theorem dX6_canBeKept_101 : decode cX6_canBeKept 101 = .ok (.iload_n 1, 1) := by decide +kernel
theorem dX6_canBeKept_102 : decode cX6_canBeKept 102 = .ok (.iload 4, 2) := by decide +kernel
theorem dX6_canBeKept_104 : decode cX6_canBeKept 104 = .ok (.invokevirtual 298, 3) := by decide +kernel
theorem dX6_canBeKept_107 : decode cX6_canBeKept 107 = .ok (.aload_n 0, 1) := by decide +kernel
theorem dX6_canBeKept_108 : decode cX6_canBeKept 108 = .ok (.getfield 29, 3) := by decide +kernel
theorem dX6_canBeKept_111 : decode cX6_canBeKept 111 = .ok (.getfield 131, 3) := by decide +kernel
theorem dX6_canBeKept_114 : decode cX6_canBeKept 114 = .ok (.iload 5, 2) := by decide +kernel
theorem dX6_canBeKept_116 : decode cX6_canBeKept 116 = .ok (.iadd, 1) := by decide +kernel
theorem dX6_canBeKept_117 : decode cX6_canBeKept 117 = .ok (.if_icmp .le 5, 3) := by decide +kernel
theorem dX6_canBeKept_120 : decode cX6_canBeKept 120 = .ok (.iconst 0, 1) := by decide +kernel
theorem dX6_canBeKept_121 : decode cX6_canBeKept 121 = .ok (.ireturn, 1) := by decide +kernel
theorem dX6_canBeKept_122 : decode cX6_canBeKept 122 = .ok (.iinc 3 1, 3) := by decide +kernel
theorem dX6_canBeKept_125 : decode cX6_canBeKept 125 = .ok (.goto (-105), 3) := by decide +kernel
theorem dX6_canBeKept_128 : decode cX6_canBeKept 128 = .ok (.iconst 1, 1) := by decide +kernel
theorem dX6_canBeKept_129 : decode cX6_canBeKept 129 = .ok (.ireturn, 1) := by decide +kernel
theorem dX6_goesAhead_0 : decode cX6_goesAhead 0 = .ok (.iload_n 3, 1) := by decide +kernel
theorem dX6_goesAhead_1 : decode cX6_goesAhead 1 = .ok (.ifCond .ne 30, 3) := by decide +kernel
theorem dX6_goesAhead_4 : decode cX6_goesAhead 4 = .ok (.aload_n 0, 1) := by decide +kernel
theorem dX6_goesAhead_5 : decode cX6_goesAhead 5 = .ok (.getfield 19, 3) := by decide +kernel
theorem dX6_goesAhead_8 : decode cX6_goesAhead 8 = .ok (.iconst 2, 1) := by decide +kernel
theorem dX6_goesAhead_9 : decode cX6_goesAhead 9 = .ok (.iload_n 1, 1) := by decide +kernel
theorem dX6_goesAhead_10 : decode cX6_goesAhead 10 = .ok (.invokevirtual 95, 3) := by decide +kernel
theorem dX6_goesAhead_13 : decode cX6_goesAhead 13 = .ok (.aload_n 0, 1) := by decide +kernel
theorem dX6_goesAhead_14 : decode cX6_goesAhead 14 = .ok (.getfield 19, 3) := by decide +kernel
theorem dX6_goesAhead_17 : decode cX6_goesAhead 17 = .ok (.iconst 2, 1) := by decide +kernel
theorem dX6_goesAhead_18 : decode cX6_goesAhead 18 = .ok (.iload_n 2, 1) := by decide +kernel
theorem dX6_goesAhead_19 : decode cX6_goesAhead 19 = .ok (.invokevirtual 95, 3) := by decide +kernel
theorem dX6_goesAhead_22 : decode cX6_goesAhead 22 = .ok (.if_icmp .ge 7, 3) := by decide +kernel
theorem dX6_goesAhead_25 : decode cX6_goesAhead 25 = .ok (.iconst 1, 1) := by decide +kernel
theorem dX6_goesAhead_26 : decode cX6_goesAhead 26 = .ok (.goto 4, 3) := by decide +kernel
theorem dX6_goesAhead_29 : decode cX6_goesAhead 29 = .ok (.iconst 0, 1) := by decide +kernel
theorem dX6_goesAhead_30 : decode cX6_goesAhead 30 = .ok (.ireturn, 1) := by decide +kernel
theorem dX6_goesAhead_31 : decode cX6_goesAhead 31 = .ok (.aload_n 0, 1) := by decide +kernel
theorem dX6_goesAhead_32 : decode cX6_goesAhead 32 = .ok (.getfield 19, 3) := by decide +kernel
theorem dX6_goesAhead_35 : decode cX6_goesAhead 35 = .ok (.iconst 4, 1) := by decide +kernel
theorem dX6_goesAhead_36 : decode cX6_goesAhead 36 = .ok (.iload_n 1, 1) := by decide +kernel
theorem dX6_goesAhead_37 : decode cX6_goesAhead 37 = .ok (.invokevirtual 95, 3) := by decide +kernel
theorem dX6_goesAhead_40 : decode cX6_goesAhead 40 = .ok (.aload_n 0, 1) := by decide +kernel
theorem dX6_goesAhead_41 : decode cX6_goesAhead 41 = .ok (.getfield 19, 3) := by decide +kernel
theorem dX6_goesAhead_44 : decode cX6_goesAhead 44 = .ok (.iconst 3, 1) := by decide +kernel
theorem dX6_goesAhead_45 : decode cX6_goesAhead 45 = .ok (.iload_n 2, 1) := by decide +kernel
theorem dX6_goesAhead_46 : decode cX6_goesAhead 46 = .ok (.invokevirtual 95, 3) := by decide +kernel
theorem dX6_goesAhead_49 : decode cX6_goesAhead 49 = .ok (.imul, 1) := by decide +kernel
theorem dX6_goesAhead_50 : decode cX6_goesAhead 50 = .ok (.aload_n 0, 1) := by decide +kernel
theorem dX6_goesAhead_51 : decode cX6_goesAhead 51 = .ok (.getfield 19, 3) := by decide +kernel
theorem dX6_goesAhead_54 : decode cX6_goesAhead 54 = .ok (.iconst 4, 1) := by decide +kernel
theorem dX6_goesAhead_55 : decode cX6_goesAhead 55 = .ok (.iload_n 2, 1) := by decide +kernel
theorem dX6_goesAhead_56 : decode cX6_goesAhead 56 = .ok (.invokevirtual 95, 3) := by decide +kernel
theorem dX6_goesAhead_59 : decode cX6_goesAhead 59 = .ok (.aload_n 0, 1) := by decide +kernel
theorem dX6_goesAhead_60 : decode cX6_goesAhead 60 = .ok (.getfield 19, 3) := by decide +kernel
theorem dX6_goesAhead_63 : decode cX6_goesAhead 63 = .ok (.iconst 3, 1) := by decide +kernel
theorem dX6_goesAhead_64 : decode cX6_goesAhead 64 = .ok (.iload_n 1, 1) := by decide +kernel
theorem dX6_goesAhead_65 : decode cX6_goesAhead 65 = .ok (.invokevirtual 95, 3) := by decide +kernel
theorem dX6_goesAhead_68 : decode cX6_goesAhead 68 = .ok (.imul, 1) := by decide +kernel
theorem dX6_goesAhead_69 : decode cX6_goesAhead 69 = .ok (.if_icmp .le 7, 3) := by decide +kernel
theorem dX6_goesAhead_72 : decode cX6_goesAhead 72 = .ok (.iconst 1, 1) := by decide +kernel
theorem dX6_goesAhead_73 : decode cX6_goesAhead 73 = .ok (.goto 4, 3) := by decide +kernel
theorem dX6_goesAhead_76 : decode cX6_goesAhead 76 = .ok (.iconst 0, 1) := by decide +kernel
theorem dX6_goesAhead_77 : decode cX6_goesAhead 77 = .ok (.ireturn, 1) := by decide +kernel
theorem dX6_besomsToBind_0 : decode cX6_besomsToBind 0 = .ok (.iconst 0, 1) := by decide +kernel
theorem dX6_besomsToBind_1 : decode cX6_besomsToBind 1 = .ok (.istore_n 1, 1) := by decide +kernel
theorem dX6_besomsToBind_2 : decode cX6_besomsToBind 2 = .ok (.iconst 0, 1) := by decide +kernel
theorem dX6_besomsToBind_3 : decode cX6_besomsToBind 3 = .ok (.istore_n 2, 1) := by decide +kernel
theorem dX6_besomsToBind_4 : decode cX6_besomsToBind 4 = .ok (.iload_n 2, 1) := by decide +kernel
theorem dX6_besomsToBind_5 : decode cX6_besomsToBind 5 = .ok (.aload_n 0, 1) := by decide +kernel
theorem dX6_besomsToBind_6 : decode cX6_besomsToBind 6 = .ok (.getfield 19, 3) := by decide +kernel
theorem dX6_besomsToBind_9 : decode cX6_besomsToBind 9 = .ok (.invokevirtual 203, 3) := by decide +kernel
theorem dX6_besomsToBind_12 : decode cX6_besomsToBind 12 = .ok (.if_icmp .ge 32, 3) := by decide +kernel
theorem dX6_besomsToBind_15 : decode cX6_besomsToBind 15 = .ok (.aload_n 0, 1) := by decide +kernel
theorem dX6_besomsToBind_16 : decode cX6_besomsToBind 16 = .ok (.getfield 29, 3) := by decide +kernel
theorem dX6_besomsToBind_19 : decode cX6_besomsToBind 19 = .ok (.iload_n 2, 1) := by decide +kernel
theorem dX6_besomsToBind_20 : decode cX6_besomsToBind 20 = .ok (.invokevirtual 109, 3) := by decide +kernel
theorem dX6_besomsToBind_23 : decode cX6_besomsToBind 23 = .ok (.ifCond .ne 15, 3) := by decide +kernel
theorem dX6_besomsToBind_26 : decode cX6_besomsToBind 26 = .ok (.iload_n 1, 1) := by decide +kernel
theorem dX6_besomsToBind_27 : decode cX6_besomsToBind 27 = .ok (.aload_n 0, 1) := by decide +kernel
theorem dX6_besomsToBind_28 : decode cX6_besomsToBind 28 = .ok (.getfield 19, 3) := by decide +kernel
theorem dX6_besomsToBind_31 : decode cX6_besomsToBind 31 = .ok (.iconst 3, 1) := by decide +kernel
theorem dX6_besomsToBind_32 : decode cX6_besomsToBind 32 = .ok (.iload_n 2, 1) := by decide +kernel
theorem dX6_besomsToBind_33 : decode cX6_besomsToBind 33 = .ok (.invokevirtual 95, 3) := by decide +kernel
theorem dX6_besomsToBind_36 : decode cX6_besomsToBind 36 = .ok (.iadd, 1) := by decide +kernel
theorem dX6_besomsToBind_37 : decode cX6_besomsToBind 37 = .ok (.istore_n 1, 1) := by decide +kernel
theorem dX6_besomsToBind_38 : decode cX6_besomsToBind 38 = .ok (.iinc 2 1, 3) := by decide +kernel
theorem dX6_besomsToBind_41 : decode cX6_besomsToBind 41 = .ok (.goto (-37), 3) := by decide +kernel
theorem dX6_besomsToBind_44 : decode cX6_besomsToBind 44 = .ok (.iconst 0, 1) := by decide +kernel
theorem dX6_besomsToBind_45 : decode cX6_besomsToBind 45 = .ok (.iload_n 1, 1) := by decide +kernel
theorem dX6_besomsToBind_46 : decode cX6_besomsToBind 46 = .ok (.aload_n 0, 1) := by decide +kernel
theorem dX6_besomsToBind_47 : decode cX6_besomsToBind 47 = .ok (.getfield 29, 3) := by decide +kernel
theorem dX6_besomsToBind_50 : decode cX6_besomsToBind 50 = .ok (.getfield 131, 3) := by decide +kernel
theorem dX6_besomsToBind_53 : decode cX6_besomsToBind 53 = .ok (.isub, 1) := by decide +kernel
theorem dX6_besomsToBind_54 : decode cX6_besomsToBind 54 = .ok (.invokestatic 295, 3) := by decide +kernel
theorem dX6_besomsToBind_57 : decode cX6_besomsToBind 57 = .ok (.ireturn, 1) := by decide +kernel
theorem dX6_lackingTwigs_0 : decode cX6_lackingTwigs 0 = .ok (.iconst 0, 1) := by decide +kernel
theorem dX6_lackingTwigs_1 : decode cX6_lackingTwigs 1 = .ok (.aload_n 0, 1) := by decide +kernel
theorem dX6_lackingTwigs_2 : decode cX6_lackingTwigs 2 = .ok (.invokevirtual 230, 3) := by decide +kernel
theorem dX6_lackingTwigs_5 : decode cX6_lackingTwigs 5 = .ok (.aload_n 0, 1) := by decide +kernel
theorem dX6_lackingTwigs_6 : decode cX6_lackingTwigs 6 = .ok (.getfield 19, 3) := by decide +kernel
theorem dX6_lackingTwigs_9 : decode cX6_lackingTwigs 9 = .ok (.invokevirtual 155, 3) := by decide +kernel
theorem dX6_lackingTwigs_12 : decode cX6_lackingTwigs 12 = .ok (.imul, 1) := by decide +kernel
theorem dX6_lackingTwigs_13 : decode cX6_lackingTwigs 13 = .ok (.aload_n 0, 1) := by decide +kernel
theorem dX6_lackingTwigs_14 : decode cX6_lackingTwigs 14 = .ok (.getfield 29, 3) := by decide +kernel
theorem dX6_lackingTwigs_17 : decode cX6_lackingTwigs 17 = .ok (.getfield 128, 3) := by decide +kernel
theorem dX6_lackingTwigs_20 : decode cX6_lackingTwigs 20 = .ok (.isub, 1) := by decide +kernel
theorem dX6_lackingTwigs_21 : decode cX6_lackingTwigs 21 = .ok (.invokestatic 295, 3) := by decide +kernel
theorem dX6_lackingTwigs_24 : decode cX6_lackingTwigs 24 = .ok (.ireturn, 1) := by decide +kernel
theorem dX6_sweepingsBy_0 : decode cX6_sweepingsBy 0 = .ok (.aload_n 0, 1) := by decide +kernel
theorem dX6_sweepingsBy_1 : decode cX6_sweepingsBy 1 = .ok (.getfield 62, 3) := by decide +kernel
theorem dX6_sweepingsBy_4 : decode cX6_sweepingsBy 4 = .ok (.aload_n 0, 1) := by decide +kernel
theorem dX6_sweepingsBy_5 : decode cX6_sweepingsBy 5 = .ok (.getfield 29, 3) := by decide +kernel
theorem dX6_sweepingsBy_8 : decode cX6_sweepingsBy 8 = .ok (.getfield 115, 3) := by decide +kernel
theorem dX6_sweepingsBy_11 : decode cX6_sweepingsBy 11 = .ok (.invokevirtual 301, 3) := by decide +kernel
theorem dX6_sweepingsBy_14 : decode cX6_sweepingsBy 14 = .ok (.iconst 0, 1) := by decide +kernel
theorem dX6_sweepingsBy_15 : decode cX6_sweepingsBy 15 = .ok (.istore_n 2, 1) := by decide +kernel
theorem dX6_sweepingsBy_16 : decode cX6_sweepingsBy 16 = .ok (.iload_n 2, 1) := by decide +kernel
theorem dX6_sweepingsBy_17 : decode cX6_sweepingsBy 17 = .ok (.sipush 200, 3) := by decide +kernel
theorem dX6_sweepingsBy_20 : decode cX6_sweepingsBy 20 = .ok (.if_icmp .ge 34, 3) := by decide +kernel
theorem dX6_sweepingsBy_23 : decode cX6_sweepingsBy 23 = .ok (.aload_n 0, 1) := by decide +kernel
theorem dX6_sweepingsBy_24 : decode cX6_sweepingsBy 24 = .ok (.getfield 62, 3) := by decide +kernel
theorem dX6_sweepingsBy_27 : decode cX6_sweepingsBy 27 = .ok (.invokevirtual 305, 3) := by decide +kernel
theorem dX6_sweepingsBy_30 : decode cX6_sweepingsBy 30 = .ok (.ifCond .ne 24, 3) := by decide +kernel
theorem dX6_sweepingsBy_33 : decode cX6_sweepingsBy 33 = .ok (.aload_n 0, 1) := by decide +kernel
theorem dX6_sweepingsBy_34 : decode cX6_sweepingsBy 34 = .ok (.getfield 62, 3) := by decide +kernel
theorem dX6_sweepingsBy_37 : decode cX6_sweepingsBy 37 = .ok (.invokevirtual 167, 3) := by decide +kernel
theorem dX6_sweepingsBy_40 : decode cX6_sweepingsBy 40 = .ok (.aload_n 0, 1) := by decide +kernel
theorem dX6_sweepingsBy_41 : decode cX6_sweepingsBy 41 = .ok (.getfield 62, 3) := by decide +kernel
theorem dX6_sweepingsBy_44 : decode cX6_sweepingsBy 44 = .ok (.iload_n 1, 1) := by decide +kernel
theorem dX6_sweepingsBy_45 : decode cX6_sweepingsBy 45 = .ok (.invokevirtual 170, 3) := by decide +kernel
theorem dX6_sweepingsBy_48 : decode cX6_sweepingsBy 48 = .ok (.iinc 2 1, 3) := by decide +kernel
theorem dX6_sweepingsBy_51 : decode cX6_sweepingsBy 51 = .ok (.goto (-35), 3) := by decide +kernel
theorem dX6_sweepingsBy_54 : decode cX6_sweepingsBy 54 = .ok (.iload_n 2, 1) := by decide +kernel
theorem dX6_sweepingsBy_55 : decode cX6_sweepingsBy 55 = .ok (.ireturn, 1) := by decide +kernel
theorem dX6_allSeenIsSoBy_0 : decode cX6_allSeenIsSoBy 0 = .ok (.aload_n 0, 1) := by decide +kernel
theorem dX6_allSeenIsSoBy_1 : decode cX6_allSeenIsSoBy 1 = .ok (.getfield 62, 3) := by decide +kernel
theorem dX6_allSeenIsSoBy_4 : decode cX6_allSeenIsSoBy 4 = .ok (.aload_n 0, 1) := by decide +kernel
theorem dX6_allSeenIsSoBy_5 : decode cX6_allSeenIsSoBy 5 = .ok (.getfield 29, 3) := by decide +kernel
theorem dX6_allSeenIsSoBy_8 : decode cX6_allSeenIsSoBy 8 = .ok (.getfield 115, 3) := by decide +kernel
theorem dX6_allSeenIsSoBy_11 : decode cX6_allSeenIsSoBy 11 = .ok (.invokevirtual 301, 3) := by decide +kernel
theorem dX6_allSeenIsSoBy_14 : decode cX6_allSeenIsSoBy 14 = .ok (.iconst 0, 1) := by decide +kernel
theorem dX6_allSeenIsSoBy_15 : decode cX6_allSeenIsSoBy 15 = .ok (.istore_n 2, 1) := by decide +kernel
theorem dX6_allSeenIsSoBy_16 : decode cX6_allSeenIsSoBy 16 = .ok (.iload_n 2, 1) := by decide +kernel
theorem dX6_allSeenIsSoBy_17 : decode cX6_allSeenIsSoBy 17 = .ok (.bipush 40, 2) := by decide +kernel
theorem dX6_allSeenIsSoBy_19 : decode cX6_allSeenIsSoBy 19 = .ok (.if_icmp .gt 34, 3) := by decide +kernel
theorem dX6_allSeenIsSoBy_22 : decode cX6_allSeenIsSoBy 22 = .ok (.aload_n 0, 1) := by decide +kernel
theorem dX6_allSeenIsSoBy_23 : decode cX6_allSeenIsSoBy 23 = .ok (.iload_n 2, 1) := by decide +kernel
theorem dX6_allSeenIsSoBy_24 : decode cX6_allSeenIsSoBy 24 = .ok (.invokevirtual 309, 3) := by decide +kernel
theorem dX6_allSeenIsSoBy_27 : decode cX6_allSeenIsSoBy 27 = .ok (.ifCond .ne 5, 3) := by decide +kernel
theorem dX6_allSeenIsSoBy_30 : decode cX6_allSeenIsSoBy 30 = .ok (.iconst 0, 1) := by decide +kernel
theorem dX6_allSeenIsSoBy_31 : decode cX6_allSeenIsSoBy 31 = .ok (.ireturn, 1) := by decide +kernel
theorem dX6_allSeenIsSoBy_32 : decode cX6_allSeenIsSoBy 32 = .ok (.aload_n 0, 1) := by decide +kernel
theorem dX6_allSeenIsSoBy_33 : decode cX6_allSeenIsSoBy 33 = .ok (.getfield 62, 3) := by decide +kernel
theorem dX6_allSeenIsSoBy_36 : decode cX6_allSeenIsSoBy 36 = .ok (.invokevirtual 167, 3) := by decide +kernel
theorem dX6_allSeenIsSoBy_39 : decode cX6_allSeenIsSoBy 39 = .ok (.aload_n 0, 1) := by decide +kernel
theorem dX6_allSeenIsSoBy_40 : decode cX6_allSeenIsSoBy 40 = .ok (.getfield 62, 3) := by decide +kernel
theorem dX6_allSeenIsSoBy_43 : decode cX6_allSeenIsSoBy 43 = .ok (.iload_n 1, 1) := by decide +kernel
theorem dX6_allSeenIsSoBy_44 : decode cX6_allSeenIsSoBy 44 = .ok (.invokevirtual 170, 3) := by decide +kernel
theorem dX6_allSeenIsSoBy_47 : decode cX6_allSeenIsSoBy 47 = .ok (.iinc 2 1, 3) := by decide +kernel
theorem dX6_allSeenIsSoBy_50 : decode cX6_allSeenIsSoBy 50 = .ok (.goto (-34), 3) := by decide +kernel
theorem dX6_allSeenIsSoBy_53 : decode cX6_allSeenIsSoBy 53 = .ok (.iconst 1, 1) := by decide +kernel
theorem dX6_allSeenIsSoBy_54 : decode cX6_allSeenIsSoBy 54 = .ok (.ireturn, 1) := by decide +kernel
theorem dX6_seenFits_0 : decode cX6_seenFits 0 = .ok (.iconst 0, 1) := by decide +kernel
theorem dX6_seenFits_1 : decode cX6_seenFits 1 = .ok (.istore_n 2, 1) := by decide +kernel
theorem dX6_seenFits_2 : decode cX6_seenFits 2 = .ok (.iload_n 2, 1) := by decide +kernel
theorem dX6_seenFits_3 : decode cX6_seenFits 3 = .ok (.aload_n 0, 1) := by decide +kernel
theorem dX6_seenFits_4 : decode cX6_seenFits 4 = .ok (.getfield 236, 3) := by decide +kernel
theorem dX6_seenFits_7 : decode cX6_seenFits 7 = .ok (.if_icmp .ge 48, 3) := by decide +kernel
theorem dX6_seenFits_10 : decode cX6_seenFits 10 = .ok (.iload_n 2, 1) := by decide +kernel
theorem dX6_seenFits_11 : decode cX6_seenFits 11 = .ok (.iconst 5, 1) := by decide +kernel
theorem dX6_seenFits_12 : decode cX6_seenFits 12 = .ok (.if_icmp .ge 43, 3) := by decide +kernel
theorem dX6_seenFits_15 : decode cX6_seenFits 15 = .ok (.aload_n 0, 1) := by decide +kernel
theorem dX6_seenFits_16 : decode cX6_seenFits 16 = .ok (.getfield 49, 3) := by decide +kernel
theorem dX6_seenFits_19 : decode cX6_seenFits 19 = .ok (.iload_n 2, 1) := by decide +kernel
theorem dX6_seenFits_20 : decode cX6_seenFits 20 = .ok (.iaload, 1) := by decide +kernel
theorem dX6_seenFits_21 : decode cX6_seenFits 21 = .ok (.iload_n 1, 1) := by decide +kernel
theorem dX6_seenFits_22 : decode cX6_seenFits 22 = .ok (.if_icmp .ne 27, 3) := by decide +kernel
theorem dX6_seenFits_25 : decode cX6_seenFits 25 = .ok (.aload_n 0, 1) := by decide +kernel
theorem dX6_seenFits_26 : decode cX6_seenFits 26 = .ok (.getfield 62, 3) := by decide +kernel
theorem dX6_seenFits_29 : decode cX6_seenFits 29 = .ok (.aload_n 0, 1) := by decide +kernel
theorem dX6_seenFits_30 : decode cX6_seenFits 30 = .ok (.getfield 53, 3) := by decide +kernel
theorem dX6_seenFits_33 : decode cX6_seenFits 33 = .ok (.iload_n 2, 1) := by decide +kernel
theorem dX6_seenFits_34 : decode cX6_seenFits 34 = .ok (.iaload, 1) := by decide +kernel
theorem dX6_seenFits_35 : decode cX6_seenFits 35 = .ok (.invokevirtual 118, 3) := by decide +kernel
theorem dX6_seenFits_38 : decode cX6_seenFits 38 = .ok (.aload_n 0, 1) := by decide +kernel
theorem dX6_seenFits_39 : decode cX6_seenFits 39 = .ok (.getfield 56, 3) := by decide +kernel
theorem dX6_seenFits_42 : decode cX6_seenFits 42 = .ok (.iload_n 2, 1) := by decide +kernel
theorem dX6_seenFits_43 : decode cX6_seenFits 43 = .ok (.iaload, 1) := by decide +kernel
theorem dX6_seenFits_44 : decode cX6_seenFits 44 = .ok (.if_icmp .eq 5, 3) := by decide +kernel
theorem dX6_seenFits_47 : decode cX6_seenFits 47 = .ok (.iconst 0, 1) := by decide +kernel
theorem dX6_seenFits_48 : decode cX6_seenFits 48 = .ok (.ireturn, 1) := by decide +kernel
theorem dX6_seenFits_49 : decode cX6_seenFits 49 = .ok (.iinc 2 1, 3) := by decide +kernel
theorem dX6_seenFits_52 : decode cX6_seenFits 52 = .ok (.goto (-50), 3) := by decide +kernel
theorem dX6_seenFits_55 : decode cX6_seenFits 55 = .ok (.iconst 1, 1) := by decide +kernel
theorem dX6_seenFits_56 : decode cX6_seenFits 56 = .ok (.ireturn, 1) := by decide +kernel
theorem dX6_rateAsPart_0 : decode cX6_rateAsPart 0 = .ok (.aload_n 0, 1) := by decide +kernel
theorem dX6_rateAsPart_1 : decode cX6_rateAsPart 1 = .ok (.dup, 1) := by decide +kernel
theorem dX6_rateAsPart_2 : decode cX6_rateAsPart 2 = .ok (.getfield 279, 3) := by decide +kernel
theorem dX6_rateAsPart_5 : decode cX6_rateAsPart 5 = .ok (.lconst 1, 1) := by decide +kernel
theorem dX6_rateAsPart_6 : decode cX6_rateAsPart 6 = .ok (.ladd, 1) := by decide +kernel
theorem dX6_rateAsPart_7 : decode cX6_rateAsPart 7 = .ok (.putfield 279, 3) := by decide +kernel
theorem dX6_rateAsPart_10 : decode cX6_rateAsPart 10 = .ok (.aload_n 0, 1) := by decide +kernel
theorem dX6_rateAsPart_11 : decode cX6_rateAsPart 11 = .ok (.iload_n 1, 1) := by decide +kernel
theorem dX6_rateAsPart_12 : decode cX6_rateAsPart 12 = .ok (.invokevirtual 103, 3) := by decide +kernel
theorem dX6_rateAsPart_15 : decode cX6_rateAsPart 15 = .ok (.ireturn, 1) := by decide +kernel
theorem dX6_rateAsBirch_0 : decode cX6_rateAsBirch 0 = .ok (.aload_n 0, 1) := by decide +kernel
theorem dX6_rateAsBirch_1 : decode cX6_rateAsBirch 1 = .ok (.dup, 1) := by decide +kernel
theorem dX6_rateAsBirch_2 : decode cX6_rateAsBirch 2 = .ok (.getfield 279, 3) := by decide +kernel
theorem dX6_rateAsBirch_5 : decode cX6_rateAsBirch 5 = .ok (.ldc2_w 312, 3) := by decide +kernel
theorem dX6_rateAsBirch_8 : decode cX6_rateAsBirch 8 = .ok (.ladd, 1) := by decide +kernel
theorem dX6_rateAsBirch_9 : decode cX6_rateAsBirch 9 = .ok (.putfield 279, 3) := by decide +kernel
theorem dX6_rateAsBirch_12 : decode cX6_rateAsBirch 12 = .ok (.aload_n 0, 1) := by decide +kernel
theorem dX6_rateAsBirch_13 : decode cX6_rateAsBirch 13 = .ok (.iload_n 1, 1) := by decide +kernel
theorem dX6_rateAsBirch_14 : decode cX6_rateAsBirch 14 = .ok (.invokevirtual 249, 3) := by decide +kernel
theorem dX6_rateAsBirch_17 : decode cX6_rateAsBirch 17 = .ok (.aload_n 0, 1) := by decide +kernel
theorem dX6_rateAsBirch_18 : decode cX6_rateAsBirch 18 = .ok (.getfield 19, 3) := by decide +kernel
theorem dX6_rateAsBirch_21 : decode cX6_rateAsBirch 21 = .ok (.iconst 0, 1) := by decide +kernel
theorem dX6_rateAsBirch_22 : decode cX6_rateAsBirch 22 = .ok (.iload_n 1, 1) := by decide +kernel
theorem dX6_rateAsBirch_23 : decode cX6_rateAsBirch 23 = .ok (.invokevirtual 95, 3) := by decide +kernel
theorem dX6_rateAsBirch_26 : decode cX6_rateAsBirch 26 = .ok (.iadd, 1) := by decide +kernel
theorem dX6_rateAsBirch_27 : decode cX6_rateAsBirch 27 = .ok (.ireturn, 1) := by decide +kernel
theorem dX6_rateAsHeather_0 : decode cX6_rateAsHeather 0 = .ok (.aload_n 0, 1) := by decide +kernel
theorem dX6_rateAsHeather_1 : decode cX6_rateAsHeather 1 = .ok (.dup, 1) := by decide +kernel
theorem dX6_rateAsHeather_2 : decode cX6_rateAsHeather 2 = .ok (.getfield 279, 3) := by decide +kernel
theorem dX6_rateAsHeather_5 : decode cX6_rateAsHeather 5 = .ok (.ldc2_w 314, 3) := by decide +kernel
theorem dX6_rateAsHeather_8 : decode cX6_rateAsHeather 8 = .ok (.ladd, 1) := by decide +kernel
theorem dX6_rateAsHeather_9 : decode cX6_rateAsHeather 9 = .ok (.putfield 279, 3) := by decide +kernel
theorem dX6_rateAsHeather_12 : decode cX6_rateAsHeather 12 = .ok (.aload_n 0, 1) := by decide +kernel
theorem dX6_rateAsHeather_13 : decode cX6_rateAsHeather 13 = .ok (.iload_n 1, 1) := by decide +kernel
theorem dX6_rateAsHeather_14 : decode cX6_rateAsHeather 14 = .ok (.invokevirtual 249, 3) := by decide +kernel
theorem dX6_rateAsHeather_17 : decode cX6_rateAsHeather 17 = .ok (.aload_n 0, 1) := by decide +kernel
theorem dX6_rateAsHeather_18 : decode cX6_rateAsHeather 18 = .ok (.getfield 29, 3) := by decide +kernel
theorem dX6_rateAsHeather_21 : decode cX6_rateAsHeather 21 = .ok (.iload_n 1, 1) := by decide +kernel
theorem dX6_rateAsHeather_22 : decode cX6_rateAsHeather 22 = .ok (.invokevirtual 99, 3) := by decide +kernel
theorem dX6_rateAsHeather_25 : decode cX6_rateAsHeather 25 = .ok (.isub, 1) := by decide +kernel
theorem dX6_rateAsHeather_26 : decode cX6_rateAsHeather 26 = .ok (.ireturn, 1) := by decide +kernel
theorem dX6_rateAsStake_0 : decode cX6_rateAsStake 0 = .ok (.aload_n 0, 1) := by decide +kernel
theorem dX6_rateAsStake_1 : decode cX6_rateAsStake 1 = .ok (.dup, 1) := by decide +kernel
theorem dX6_rateAsStake_2 : decode cX6_rateAsStake 2 = .ok (.getfield 279, 3) := by decide +kernel
theorem dX6_rateAsStake_5 : decode cX6_rateAsStake 5 = .ok (.ldc2_w 316, 3) := by decide +kernel
theorem dX6_rateAsStake_8 : decode cX6_rateAsStake 8 = .ok (.ladd, 1) := by decide +kernel
theorem dX6_rateAsStake_9 : decode cX6_rateAsStake 9 = .ok (.putfield 279, 3) := by decide +kernel
theorem dX6_rateAsStake_12 : decode cX6_rateAsStake 12 = .ok (.iconst 2, 1) := by decide +kernel
theorem dX6_rateAsStake_13 : decode cX6_rateAsStake 13 = .ok (.aload_n 0, 1) := by decide +kernel
theorem dX6_rateAsStake_14 : decode cX6_rateAsStake 14 = .ok (.iload_n 1, 1) := by decide +kernel
theorem dX6_rateAsStake_15 : decode cX6_rateAsStake 15 = .ok (.invokevirtual 252, 3) := by decide +kernel
theorem dX6_rateAsStake_18 : decode cX6_rateAsStake 18 = .ok (.imul, 1) := by decide +kernel
theorem dX6_rateAsStake_19 : decode cX6_rateAsStake 19 = .ok (.ireturn, 1) := by decide +kernel
theorem dX6_rateAsKnot_0 : decode cX6_rateAsKnot 0 = .ok (.aload_n 0, 1) := by decide +kernel
theorem dX6_rateAsKnot_1 : decode cX6_rateAsKnot 1 = .ok (.dup, 1) := by decide +kernel
theorem dX6_rateAsKnot_2 : decode cX6_rateAsKnot 2 = .ok (.getfield 279, 3) := by decide +kernel
theorem dX6_rateAsKnot_5 : decode cX6_rateAsKnot 5 = .ok (.ldc2_w 318, 3) := by decide +kernel
theorem dX6_rateAsKnot_8 : decode cX6_rateAsKnot 8 = .ok (.ladd, 1) := by decide +kernel
theorem dX6_rateAsKnot_9 : decode cX6_rateAsKnot 9 = .ok (.putfield 279, 3) := by decide +kernel
theorem dX6_rateAsKnot_12 : decode cX6_rateAsKnot 12 = .ok (.aload_n 0, 1) := by decide +kernel
theorem dX6_rateAsKnot_13 : decode cX6_rateAsKnot 13 = .ok (.iload_n 1, 1) := by decide +kernel
theorem dX6_rateAsKnot_14 : decode cX6_rateAsKnot 14 = .ok (.invokevirtual 255, 3) := by decide +kernel
theorem dX6_rateAsKnot_17 : decode cX6_rateAsKnot 17 = .ok (.iload_n 1, 1) := by decide +kernel
theorem dX6_rateAsKnot_18 : decode cX6_rateAsKnot 18 = .ok (.iadd, 1) := by decide +kernel
theorem dX6_rateAsKnot_19 : decode cX6_rateAsKnot 19 = .ok (.ireturn, 1) := by decide +kernel
theorem dX6_rateAsBramble_0 : decode cX6_rateAsBramble 0 = .ok (.aload_n 0, 1) := by decide +kernel
theorem dX6_rateAsBramble_1 : decode cX6_rateAsBramble 1 = .ok (.dup, 1) := by decide +kernel
theorem dX6_rateAsBramble_2 : decode cX6_rateAsBramble 2 = .ok (.getfield 279, 3) := by decide +kernel
theorem dX6_rateAsBramble_5 : decode cX6_rateAsBramble 5 = .ok (.ldc2_w 320, 3) := by decide +kernel
theorem dX6_rateAsBramble_8 : decode cX6_rateAsBramble 8 = .ok (.ladd, 1) := by decide +kernel
theorem dX6_rateAsBramble_9 : decode cX6_rateAsBramble 9 = .ok (.putfield 279, 3) := by decide +kernel
theorem dX6_rateAsBramble_12 : decode cX6_rateAsBramble 12 = .ok (.aload_n 0, 1) := by decide +kernel
theorem dX6_rateAsBramble_13 : decode cX6_rateAsBramble 13 = .ok (.iload_n 1, 1) := by decide +kernel
theorem dX6_rateAsBramble_14 : decode cX6_rateAsBramble 14 = .ok (.invokevirtual 249, 3) := by decide +kernel
theorem dX6_rateAsBramble_17 : decode cX6_rateAsBramble 17 = .ok (.aload_n 0, 1) := by decide +kernel
theorem dX6_rateAsBramble_18 : decode cX6_rateAsBramble 18 = .ok (.getfield 29, 3) := by decide +kernel
theorem dX6_rateAsBramble_21 : decode cX6_rateAsBramble 21 = .ok (.getfield 125, 3) := by decide +kernel
theorem dX6_rateAsBramble_24 : decode cX6_rateAsBramble 24 = .ok (.iadd, 1) := by decide +kernel
theorem dX6_rateAsBramble_25 : decode cX6_rateAsBramble 25 = .ok (.ireturn, 1) := by decide +kernel
theorem dX6_cutUpwards_0 : decode cX6_cutUpwards 0 = .ok (.iload_n 1, 1) := by decide +kernel
theorem dX6_cutUpwards_1 : decode cX6_cutUpwards 1 = .ok (.iconst 1, 1) := by decide +kernel
theorem dX6_cutUpwards_2 : decode cX6_cutUpwards 2 = .ok (.if_icmp .ge 7, 3) := by decide +kernel
theorem dX6_cutUpwards_5 : decode cX6_cutUpwards 5 = .ok (.iconst 0, 1) := by decide +kernel
theorem dX6_cutUpwards_6 : decode cX6_cutUpwards 6 = .ok (.goto 10, 3) := by decide +kernel
theorem dX6_cutUpwards_9 : decode cX6_cutUpwards 9 = .ok (.iload_n 0, 1) := by decide +kernel
theorem dX6_cutUpwards_10 : decode cX6_cutUpwards 10 = .ok (.iload_n 1, 1) := by decide +kernel
theorem dX6_cutUpwards_11 : decode cX6_cutUpwards 11 = .ok (.iadd, 1) := by decide +kernel
theorem dX6_cutUpwards_12 : decode cX6_cutUpwards 12 = .ok (.iconst 1, 1) := by decide +kernel
theorem dX6_cutUpwards_13 : decode cX6_cutUpwards 13 = .ok (.isub, 1) := by decide +kernel
theorem dX6_cutUpwards_14 : decode cX6_cutUpwards 14 = .ok (.iload_n 1, 1) := by decide +kernel
theorem dX6_cutUpwards_15 : decode cX6_cutUpwards 15 = .ok (.idiv, 1) := by decide +kernel
theorem dX6_cutUpwards_16 : decode cX6_cutUpwards 16 = .ok (.ireturn, 1) := by decide +kernel
theorem dX6_cutDownwards_0 : decode cX6_cutDownwards 0 = .ok (.iload_n 1, 1) := by decide +kernel
theorem dX6_cutDownwards_1 : decode cX6_cutDownwards 1 = .ok (.iconst 1, 1) := by decide +kernel
theorem dX6_cutDownwards_2 : decode cX6_cutDownwards 2 = .ok (.if_icmp .ge 7, 3) := by decide +kernel
theorem dX6_cutDownwards_5 : decode cX6_cutDownwards 5 = .ok (.iconst 0, 1) := by decide +kernel
theorem dX6_cutDownwards_6 : decode cX6_cutDownwards 6 = .ok (.goto 6, 3) := by decide +kernel
theorem dX6_cutDownwards_9 : decode cX6_cutDownwards 9 = .ok (.iload_n 0, 1) := by decide +kernel
theorem dX6_cutDownwards_10 : decode cX6_cutDownwards 10 = .ok (.iload_n 1, 1) := by decide +kernel
theorem dX6_cutDownwards_11 : decode cX6_cutDownwards 11 = .ok (.idiv, 1) := by decide +kernel
theorem dX6_cutDownwards_12 : decode cX6_cutDownwards 12 = .ok (.ireturn, 1) := by decide +kernel
theorem dX6_inLeastTerms_0 : decode cX6_inLeastTerms 0 = .ok (.iload_n 0, 1) := by decide +kernel
theorem dX6_inLeastTerms_1 : decode cX6_inLeastTerms 1 = .ok (.iload_n 1, 1) := by decide +kernel
theorem dX6_inLeastTerms_2 : decode cX6_inLeastTerms 2 = .ok (.invokestatic 322, 3) := by decide +kernel
theorem dX6_inLeastTerms_5 : decode cX6_inLeastTerms 5 = .ok (.istore_n 3, 1) := by decide +kernel
theorem dX6_inLeastTerms_6 : decode cX6_inLeastTerms 6 = .ok (.iload_n 2, 1) := by decide +kernel
theorem dX6_inLeastTerms_7 : decode cX6_inLeastTerms 7 = .ok (.ifCond .ne 7, 3) := by decide +kernel
theorem dX6_inLeastTerms_10 : decode cX6_inLeastTerms 10 = .ok (.iload_n 0, 1) := by decide +kernel
theorem dX6_inLeastTerms_11 : decode cX6_inLeastTerms 11 = .ok (.goto 4, 3) := by decide +kernel
theorem dX6_inLeastTerms_14 : decode cX6_inLeastTerms 14 = .ok (.iload_n 1, 1) := by decide +kernel
theorem dX6_inLeastTerms_15 : decode cX6_inLeastTerms 15 = .ok (.istore 4, 2) := by decide +kernel
theorem dX6_inLeastTerms_17 : decode cX6_inLeastTerms 17 = .ok (.iload_n 3, 1) := by decide +kernel
theorem dX6_inLeastTerms_18 : decode cX6_inLeastTerms 18 = .ok (.iconst 1, 1) := by decide +kernel
theorem dX6_inLeastTerms_19 : decode cX6_inLeastTerms 19 = .ok (.if_icmp .ge 8, 3) := by decide +kernel
theorem dX6_inLeastTerms_22 : decode cX6_inLeastTerms 22 = .ok (.iload 4, 2) := by decide +kernel
theorem dX6_inLeastTerms_24 : decode cX6_inLeastTerms 24 = .ok (.goto 7, 3) := by decide +kernel
theorem dX6_inLeastTerms_27 : decode cX6_inLeastTerms 27 = .ok (.iload 4, 2) := by decide +kernel
theorem dX6_inLeastTerms_29 : decode cX6_inLeastTerms 29 = .ok (.iload_n 3, 1) := by decide +kernel
theorem dX6_inLeastTerms_30 : decode cX6_inLeastTerms 30 = .ok (.idiv, 1) := by decide +kernel
theorem dX6_inLeastTerms_31 : decode cX6_inLeastTerms 31 = .ok (.ireturn, 1) := by decide +kernel
theorem dX6_commonDivisor_0 : decode cX6_commonDivisor 0 = .ok (.iload_n 0, 1) := by decide +kernel
theorem dX6_commonDivisor_1 : decode cX6_commonDivisor 1 = .ok (.istore_n 2, 1) := by decide +kernel
theorem dX6_commonDivisor_2 : decode cX6_commonDivisor 2 = .ok (.iload_n 1, 1) := by decide +kernel
theorem dX6_commonDivisor_3 : decode cX6_commonDivisor 3 = .ok (.istore_n 3, 1) := by decide +kernel
theorem dX6_commonDivisor_4 : decode cX6_commonDivisor 4 = .ok (.iconst 0, 1) := by decide +kernel
theorem dX6_commonDivisor_5 : decode cX6_commonDivisor 5 = .ok (.istore 4, 2) := by decide +kernel
theorem dX6_commonDivisor_7 : decode cX6_commonDivisor 7 = .ok (.iload 4, 2) := by decide +kernel
theorem dX6_commonDivisor_9 : decode cX6_commonDivisor 9 = .ok (.bipush 64, 2) := by decide +kernel
theorem dX6_commonDivisor_11 : decode cX6_commonDivisor 11 = .ok (.if_icmp .ge 23, 3) := by decide +kernel
theorem dX6_commonDivisor_14 : decode cX6_commonDivisor 14 = .ok (.iload_n 3, 1) := by decide +kernel
theorem dX6_commonDivisor_15 : decode cX6_commonDivisor 15 = .ok (.ifCond .eq 19, 3) := by decide +kernel
theorem dX6_commonDivisor_18 : decode cX6_commonDivisor 18 = .ok (.iload_n 2, 1) := by decide +kernel
theorem dX6_commonDivisor_19 : decode cX6_commonDivisor 19 = .ok (.iload_n 3, 1) := by decide +kernel
theorem dX6_commonDivisor_20 : decode cX6_commonDivisor 20 = .ok (.irem, 1) := by decide +kernel
theorem dX6_commonDivisor_21 : decode cX6_commonDivisor 21 = .ok (.istore 5, 2) := by decide +kernel
theorem dX6_commonDivisor_23 : decode cX6_commonDivisor 23 = .ok (.iload_n 3, 1) := by decide +kernel
theorem dX6_commonDivisor_24 : decode cX6_commonDivisor 24 = .ok (.istore_n 2, 1) := by decide +kernel
theorem dX6_commonDivisor_25 : decode cX6_commonDivisor 25 = .ok (.iload 5, 2) := by decide +kernel
theorem dX6_commonDivisor_27 : decode cX6_commonDivisor 27 = .ok (.istore_n 3, 1) := by decide +kernel
theorem dX6_commonDivisor_28 : decode cX6_commonDivisor 28 = .ok (.iinc 4 1, 3) := by decide +kernel
theorem dX6_commonDivisor_31 : decode cX6_commonDivisor 31 = .ok (.goto (-24), 3) := by decide +kernel
theorem dX6_commonDivisor_34 : decode cX6_commonDivisor 34 = .ok (.iload_n 2, 1) := by decide +kernel
theorem dX6_commonDivisor_35 : decode cX6_commonDivisor 35 = .ok (.ireturn, 1) := by decide +kernel
theorem dX6_power_0 : decode cX6_power 0 = .ok (.iconst 1, 1) := by decide +kernel
theorem dX6_power_1 : decode cX6_power 1 = .ok (.istore_n 2, 1) := by decide +kernel
theorem dX6_power_2 : decode cX6_power 2 = .ok (.iconst 0, 1) := by decide +kernel
theorem dX6_power_3 : decode cX6_power 3 = .ok (.istore_n 3, 1) := by decide +kernel
theorem dX6_power_4 : decode cX6_power 4 = .ok (.iload_n 3, 1) := by decide +kernel
theorem dX6_power_5 : decode cX6_power 5 = .ok (.iload_n 1, 1) := by decide +kernel
theorem dX6_power_6 : decode cX6_power 6 = .ok (.if_icmp .ge 13, 3) := by decide +kernel
theorem dX6_power_9 : decode cX6_power 9 = .ok (.iload_n 2, 1) := by decide +kernel
theorem dX6_power_10 : decode cX6_power 10 = .ok (.iload_n 0, 1) := by decide +kernel
theorem dX6_power_11 : decode cX6_power 11 = .ok (.imul, 1) := by decide +kernel
theorem dX6_power_12 : decode cX6_power 12 = .ok (.istore_n 2, 1) := by decide +kernel
theorem dX6_power_13 : decode cX6_power 13 = .ok (.iinc 3 1, 3) := by decide +kernel
theorem dX6_power_16 : decode cX6_power 16 = .ok (.goto (-12), 3) := by decide +kernel
theorem dX6_power_19 : decode cX6_power 19 = .ok (.iload_n 2, 1) := by decide +kernel
theorem dX6_power_20 : decode cX6_power 20 = .ok (.ireturn, 1) := by decide +kernel
theorem dX6_waysToChoose_0 : decode cX6_waysToChoose 0 = .ok (.iconst 1, 1) := by decide +kernel
theorem dX6_waysToChoose_1 : decode cX6_waysToChoose 1 = .ok (.istore_n 2, 1) := by decide +kernel
theorem dX6_waysToChoose_2 : decode cX6_waysToChoose 2 = .ok (.iconst 1, 1) := by decide +kernel
theorem dX6_waysToChoose_3 : decode cX6_waysToChoose 3 = .ok (.istore_n 3, 1) := by decide +kernel
theorem dX6_waysToChoose_4 : decode cX6_waysToChoose 4 = .ok (.iload_n 3, 1) := by decide +kernel
theorem dX6_waysToChoose_5 : decode cX6_waysToChoose 5 = .ok (.iload_n 1, 1) := by decide +kernel
theorem dX6_waysToChoose_6 : decode cX6_waysToChoose 6 = .ok (.if_icmp .gt 19, 3) := by decide +kernel
theorem dX6_waysToChoose_9 : decode cX6_waysToChoose 9 = .ok (.iload_n 2, 1) := by decide +kernel
theorem dX6_waysToChoose_10 : decode cX6_waysToChoose 10 = .ok (.iload_n 0, 1) := by decide +kernel
theorem dX6_waysToChoose_11 : decode cX6_waysToChoose 11 = .ok (.iload_n 1, 1) := by decide +kernel
theorem dX6_waysToChoose_12 : decode cX6_waysToChoose 12 = .ok (.isub, 1) := by decide +kernel
theorem dX6_waysToChoose_13 : decode cX6_waysToChoose 13 = .ok (.iload_n 3, 1) := by decide +kernel
theorem dX6_waysToChoose_14 : decode cX6_waysToChoose 14 = .ok (.iadd, 1) := by decide +kernel
theorem dX6_waysToChoose_15 : decode cX6_waysToChoose 15 = .ok (.imul, 1) := by decide +kernel
theorem dX6_waysToChoose_16 : decode cX6_waysToChoose 16 = .ok (.iload_n 3, 1) := by decide +kernel
theorem dX6_waysToChoose_17 : decode cX6_waysToChoose 17 = .ok (.idiv, 1) := by decide +kernel
theorem dX6_waysToChoose_18 : decode cX6_waysToChoose 18 = .ok (.istore_n 2, 1) := by decide +kernel
theorem dX6_waysToChoose_19 : decode cX6_waysToChoose 19 = .ok (.iinc 3 1, 3) := by decide +kernel
theorem dX6_waysToChoose_22 : decode cX6_waysToChoose 22 = .ok (.goto (-18), 3) := by decide +kernel
theorem dX6_waysToChoose_25 : decode cX6_waysToChoose 25 = .ok (.iload_n 2, 1) := by decide +kernel
theorem dX6_waysToChoose_26 : decode cX6_waysToChoose 26 = .ok (.ireturn, 1) := by decide +kernel
