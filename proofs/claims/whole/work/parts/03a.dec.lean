theorem dX0_init_0 : decode cX0_init 0 = .ok (.aload_n 0, 1) := by decide +kernel
theorem dX0_init_1 : decode cX0_init 1 = .ok (.invokespecial 1, 3) := by decide +kernel
theorem dX0_init_4 : decode cX0_init 4 = .ok (.aload_n 0, 1) := by decide +kernel
theorem dX0_init_5 : decode cX0_init 5 = .ok (.bipush 8, 2) := by decide +kernel
theorem dX0_init_7 : decode cX0_init 7 = .ok (.newarray .int, 2) := by decide +kernel
theorem dX0_init_9 : decode cX0_init 9 = .ok (.putfield 9, 3) := by decide +kernel
theorem dX0_init_12 : decode cX0_init 12 = .ok (.return_, 1) := by decide +kernel
theorem dX0_lengthOf_0 : decode cX0_lengthOf 0 = .ok (.iload_n 1, 1) := by decide +kernel
theorem dX0_lengthOf_1 : decode cX0_lengthOf 1 = .ok (.ifCond .lt 9, 3) := by decide +kernel
theorem dX0_lengthOf_4 : decode cX0_lengthOf 4 = .ok (.iload_n 1, 1) := by decide +kernel
theorem dX0_lengthOf_5 : decode cX0_lengthOf 5 = .ok (.bipush 8, 2) := by decide +kernel
theorem dX0_lengthOf_7 : decode cX0_lengthOf 7 = .ok (.if_icmp .lt 7, 3) := by decide +kernel
theorem dX0_lengthOf_10 : decode cX0_lengthOf 10 = .ok (.iconst 0, 1) := by decide +kernel
theorem dX0_lengthOf_11 : decode cX0_lengthOf 11 = .ok (.goto 9, 3) := by decide +kernel
theorem dX0_lengthOf_14 : decode cX0_lengthOf 14 = .ok (.aload_n 0, 1) := by decide +kernel
theorem dX0_lengthOf_15 : decode cX0_lengthOf 15 = .ok (.getfield 9, 3) := by decide +kernel
theorem dX0_lengthOf_18 : decode cX0_lengthOf 18 = .ok (.iload_n 1, 1) := by decide +kernel
theorem dX0_lengthOf_19 : decode cX0_lengthOf 19 = .ok (.iaload, 1) := by decide +kernel
theorem dX0_lengthOf_20 : decode cX0_lengthOf 20 = .ok (.ireturn, 1) := by decide +kernel
theorem dX0_renew_0 : decode cX0_renew 0 = .ok (.iconst 0, 1) := by decide +kernel
theorem dX0_renew_1 : decode cX0_renew 1 = .ok (.istore_n 2, 1) := by decide +kernel
theorem dX0_renew_2 : decode cX0_renew 2 = .ok (.iload_n 2, 1) := by decide +kernel
theorem dX0_renew_3 : decode cX0_renew 3 = .ok (.bipush 8, 2) := by decide +kernel
theorem dX0_renew_5 : decode cX0_renew 5 = .ok (.if_icmp .ge 16, 3) := by decide +kernel
theorem dX0_renew_8 : decode cX0_renew 8 = .ok (.aload_n 0, 1) := by decide +kernel
theorem dX0_renew_9 : decode cX0_renew 9 = .ok (.getfield 9, 3) := by decide +kernel
theorem dX0_renew_12 : decode cX0_renew 12 = .ok (.iload_n 2, 1) := by decide +kernel
theorem dX0_renew_13 : decode cX0_renew 13 = .ok (.iload_n 1, 1) := by decide +kernel
theorem dX0_renew_14 : decode cX0_renew 14 = .ok (.iastore, 1) := by decide +kernel
theorem dX0_renew_15 : decode cX0_renew 15 = .ok (.iinc 2 1, 3) := by decide +kernel
theorem dX0_renew_18 : decode cX0_renew 18 = .ok (.goto (-16), 3) := by decide +kernel
theorem dX0_renew_21 : decode cX0_renew 21 = .ok (.aload_n 0, 1) := by decide +kernel
theorem dX0_renew_22 : decode cX0_renew 22 = .ok (.iconst 0, 1) := by decide +kernel
theorem dX0_renew_23 : decode cX0_renew 23 = .ok (.putfield 13, 3) := by decide +kernel
theorem dX0_renew_26 : decode cX0_renew 26 = .ok (.return_, 1) := by decide +kernel
theorem dX0_setAs_0 : decode cX0_setAs 0 = .ok (.iconst 0, 1) := by decide +kernel
theorem dX0_setAs_1 : decode cX0_setAs 1 = .ok (.istore_n 2, 1) := by decide +kernel
theorem dX0_setAs_2 : decode cX0_setAs 2 = .ok (.iload_n 2, 1) := by decide +kernel
theorem dX0_setAs_3 : decode cX0_setAs 3 = .ok (.bipush 8, 2) := by decide +kernel
theorem dX0_setAs_5 : decode cX0_setAs 5 = .ok (.if_icmp .ge 20, 3) := by decide +kernel
theorem dX0_setAs_8 : decode cX0_setAs 8 = .ok (.aload_n 0, 1) := by decide +kernel
theorem dX0_setAs_9 : decode cX0_setAs 9 = .ok (.getfield 9, 3) := by decide +kernel
theorem dX0_setAs_12 : decode cX0_setAs 12 = .ok (.iload_n 2, 1) := by decide +kernel
theorem dX0_setAs_13 : decode cX0_setAs 13 = .ok (.aload_n 1, 1) := by decide +kernel
theorem dX0_setAs_14 : decode cX0_setAs 14 = .ok (.iload_n 2, 1) := by decide +kernel
theorem dX0_setAs_15 : decode cX0_setAs 15 = .ok (.invokevirtual 17, 3) := by decide +kernel
theorem dX0_setAs_18 : decode cX0_setAs 18 = .ok (.iastore, 1) := by decide +kernel
theorem dX0_setAs_19 : decode cX0_setAs 19 = .ok (.iinc 2 1, 3) := by decide +kernel
theorem dX0_setAs_22 : decode cX0_setAs 22 = .ok (.goto (-20), 3) := by decide +kernel
theorem dX0_setAs_25 : decode cX0_setAs 25 = .ok (.aload_n 0, 1) := by decide +kernel
theorem dX0_setAs_26 : decode cX0_setAs 26 = .ok (.aload_n 1, 1) := by decide +kernel
theorem dX0_setAs_27 : decode cX0_setAs 27 = .ok (.getfield 13, 3) := by decide +kernel
theorem dX0_setAs_30 : decode cX0_setAs 30 = .ok (.putfield 13, 3) := by decide +kernel
theorem dX0_setAs_33 : decode cX0_setAs 33 = .ok (.return_, 1) := by decide +kernel
theorem dX0_sweep_0 : decode cX0_sweep 0 = .ok (.aload_n 0, 1) := by decide +kernel
theorem dX0_sweep_1 : decode cX0_sweep 1 = .ok (.aload_n 0, 1) := by decide +kernel
theorem dX0_sweep_2 : decode cX0_sweep 2 = .ok (.getfield 13, 3) := by decide +kernel
theorem dX0_sweep_5 : decode cX0_sweep 5 = .ok (.iconst 2, 1) := by decide +kernel
theorem dX0_sweep_6 : decode cX0_sweep 6 = .ok (.invokevirtual 21, 3) := by decide +kernel
theorem dX0_sweep_9 : decode cX0_sweep 9 = .ok (.aload_n 0, 1) := by decide +kernel
theorem dX0_sweep_10 : decode cX0_sweep 10 = .ok (.aload_n 0, 1) := by decide +kernel
theorem dX0_sweep_11 : decode cX0_sweep 11 = .ok (.getfield 13, 3) := by decide +kernel
theorem dX0_sweep_14 : decode cX0_sweep 14 = .ok (.iconst 1, 1) := by decide +kernel
theorem dX0_sweep_15 : decode cX0_sweep 15 = .ok (.iadd, 1) := by decide +kernel
theorem dX0_sweep_16 : decode cX0_sweep 16 = .ok (.iconst 1, 1) := by decide +kernel
theorem dX0_sweep_17 : decode cX0_sweep 17 = .ok (.invokevirtual 21, 3) := by decide +kernel
theorem dX0_sweep_20 : decode cX0_sweep 20 = .ok (.aload_n 0, 1) := by decide +kernel
theorem dX0_sweep_21 : decode cX0_sweep 21 = .ok (.aload_n 0, 1) := by decide +kernel
theorem dX0_sweep_22 : decode cX0_sweep 22 = .ok (.getfield 13, 3) := by decide +kernel
theorem dX0_sweep_25 : decode cX0_sweep 25 = .ok (.iconst 1, 1) := by decide +kernel
theorem dX0_sweep_26 : decode cX0_sweep 26 = .ok (.isub, 1) := by decide +kernel
theorem dX0_sweep_27 : decode cX0_sweep 27 = .ok (.iconst 1, 1) := by decide +kernel
theorem dX0_sweep_28 : decode cX0_sweep 28 = .ok (.invokevirtual 21, 3) := by decide +kernel
theorem dX0_sweep_31 : decode cX0_sweep 31 = .ok (.return_, 1) := by decide +kernel
theorem dX0_turnBy_0 : decode cX0_turnBy 0 = .ok (.aload_n 0, 1) := by decide +kernel
theorem dX0_turnBy_1 : decode cX0_turnBy 1 = .ok (.aload_n 0, 1) := by decide +kernel
theorem dX0_turnBy_2 : decode cX0_turnBy 2 = .ok (.getfield 13, 3) := by decide +kernel
theorem dX0_turnBy_5 : decode cX0_turnBy 5 = .ok (.iload_n 1, 1) := by decide +kernel
theorem dX0_turnBy_6 : decode cX0_turnBy 6 = .ok (.iadd, 1) := by decide +kernel
theorem dX0_turnBy_7 : decode cX0_turnBy 7 = .ok (.bipush 8, 2) := by decide +kernel
theorem dX0_turnBy_9 : decode cX0_turnBy 9 = .ok (.invokestatic 25, 3) := by decide +kernel
theorem dX0_turnBy_12 : decode cX0_turnBy 12 = .ok (.putfield 13, 3) := by decide +kernel
theorem dX0_turnBy_15 : decode cX0_turnBy 15 = .ok (.return_, 1) := by decide +kernel
theorem dX0_isWornOut_0 : decode cX0_isWornOut 0 = .ok (.iconst 0, 1) := by decide +kernel
theorem dX0_isWornOut_1 : decode cX0_isWornOut 1 = .ok (.istore_n 1, 1) := by decide +kernel
theorem dX0_isWornOut_2 : decode cX0_isWornOut 2 = .ok (.iload_n 1, 1) := by decide +kernel
theorem dX0_isWornOut_3 : decode cX0_isWornOut 3 = .ok (.bipush 8, 2) := by decide +kernel
theorem dX0_isWornOut_5 : decode cX0_isWornOut 5 = .ok (.if_icmp .ge 20, 3) := by decide +kernel
theorem dX0_isWornOut_8 : decode cX0_isWornOut 8 = .ok (.aload_n 0, 1) := by decide +kernel
theorem dX0_isWornOut_9 : decode cX0_isWornOut 9 = .ok (.getfield 9, 3) := by decide +kernel
theorem dX0_isWornOut_12 : decode cX0_isWornOut 12 = .ok (.iload_n 1, 1) := by decide +kernel
theorem dX0_isWornOut_13 : decode cX0_isWornOut 13 = .ok (.iaload, 1) := by decide +kernel
theorem dX0_isWornOut_14 : decode cX0_isWornOut 14 = .ok (.ifCond .ne 5, 3) := by decide +kernel
theorem dX0_isWornOut_17 : decode cX0_isWornOut 17 = .ok (.iconst 1, 1) := by decide +kernel
theorem dX0_isWornOut_18 : decode cX0_isWornOut 18 = .ok (.ireturn, 1) := by decide +kernel
theorem dX0_isWornOut_19 : decode cX0_isWornOut 19 = .ok (.iinc 1 1, 3) := by decide +kernel
theorem dX0_isWornOut_22 : decode cX0_isWornOut 22 = .ok (.goto (-20), 3) := by decide +kernel
theorem dX0_isWornOut_25 : decode cX0_isWornOut 25 = .ok (.iconst 0, 1) := by decide +kernel
theorem dX0_isWornOut_26 : decode cX0_isWornOut 26 = .ok (.ireturn, 1) := by decide +kernel
theorem dX0_shorten_0 : decode cX0_shorten 0 = .ok (.iload_n 1, 1) := by decide +kernel
theorem dX0_shorten_1 : decode cX0_shorten 1 = .ok (.bipush 8, 2) := by decide +kernel
theorem dX0_shorten_3 : decode cX0_shorten 3 = .ok (.invokestatic 25, 3) := by decide +kernel
theorem dX0_shorten_6 : decode cX0_shorten 6 = .ok (.istore_n 3, 1) := by decide +kernel
theorem dX0_shorten_7 : decode cX0_shorten 7 = .ok (.aload_n 0, 1) := by decide +kernel
theorem dX0_shorten_8 : decode cX0_shorten 8 = .ok (.getfield 9, 3) := by decide +kernel
theorem dX0_shorten_11 : decode cX0_shorten 11 = .ok (.iload_n 3, 1) := by decide +kernel
theorem dX0_shorten_12 : decode cX0_shorten 12 = .ok (.iconst 0, 1) := by decide +kernel
theorem dX0_shorten_13 : decode cX0_shorten 13 = .ok (.aload_n 0, 1) := by decide +kernel
theorem dX0_shorten_14 : decode cX0_shorten 14 = .ok (.getfield 9, 3) := by decide +kernel
theorem dX0_shorten_17 : decode cX0_shorten 17 = .ok (.iload_n 3, 1) := by decide +kernel
theorem dX0_shorten_18 : decode cX0_shorten 18 = .ok (.iaload, 1) := by decide +kernel
theorem dX0_shorten_19 : decode cX0_shorten 19 = .ok (.iload_n 2, 1) := by decide +kernel
theorem dX0_shorten_20 : decode cX0_shorten 20 = .ok (.isub, 1) := by decide +kernel
theorem dX0_shorten_21 : decode cX0_shorten 21 = .ok (.invokestatic 31, 3) := by decide +kernel
theorem dX0_shorten_24 : decode cX0_shorten 24 = .ok (.iastore, 1) := by decide +kernel
theorem dX0_shorten_25 : decode cX0_shorten 25 = .ok (.return_, 1) := by decide +kernel
theorem dX1_init_0 : decode cX1_init 0 = .ok (.aload_n 0, 1) := by decide +kernel
theorem dX1_init_1 : decode cX1_init 1 = .ok (.invokespecial 1, 3) := by decide +kernel
theorem dX1_init_4 : decode cX1_init 4 = .ok (.aload_n 0, 1) := by decide +kernel
theorem dX1_init_5 : decode cX1_init 5 = .ok (.bipush 6, 2) := by decide +kernel
theorem dX1_init_7 : decode cX1_init 7 = .ok (.newarray .int, 2) := by decide +kernel
theorem dX1_init_9 : decode cX1_init 9 = .ok (.putfield 9, 3) := by decide +kernel
theorem dX1_init_12 : decode cX1_init 12 = .ok (.aload_n 0, 1) := by decide +kernel
theorem dX1_init_13 : decode cX1_init 13 = .ok (.new 15, 3) := by decide +kernel
theorem dX1_init_16 : decode cX1_init 16 = .ok (.dup, 1) := by decide +kernel
theorem dX1_init_17 : decode cX1_init 17 = .ok (.invokespecial 17, 3) := by decide +kernel
theorem dX1_init_20 : decode cX1_init 20 = .ok (.putfield 18, 3) := by decide +kernel
theorem dX1_init_23 : decode cX1_init 23 = .ok (.return_, 1) := by decide +kernel
theorem dX1_age_0 : decode cX1_age 0 = .ok (.iload_n 1, 1) := by decide +kernel
theorem dX1_age_1 : decode cX1_age 1 = .ok (.ifCond .lt 12, 3) := by decide +kernel
theorem dX1_age_4 : decode cX1_age 4 = .ok (.iload_n 1, 1) := by decide +kernel
theorem dX1_age_5 : decode cX1_age 5 = .ok (.aload_n 0, 1) := by decide +kernel
theorem dX1_age_6 : decode cX1_age 6 = .ok (.getfield 9, 3) := by decide +kernel
theorem dX1_age_9 : decode cX1_age 9 = .ok (.arraylength, 1) := by decide +kernel
theorem dX1_age_10 : decode cX1_age 10 = .ok (.if_icmp .lt 7, 3) := by decide +kernel
theorem dX1_age_13 : decode cX1_age 13 = .ok (.iconst 0, 1) := by decide +kernel
theorem dX1_age_14 : decode cX1_age 14 = .ok (.goto 9, 3) := by decide +kernel
theorem dX1_age_17 : decode cX1_age 17 = .ok (.aload_n 0, 1) := by decide +kernel
theorem dX1_age_18 : decode cX1_age 18 = .ok (.getfield 9, 3) := by decide +kernel
theorem dX1_age_21 : decode cX1_age 21 = .ok (.iload_n 1, 1) := by decide +kernel
theorem dX1_age_22 : decode cX1_age 22 = .ok (.iaload, 1) := by decide +kernel
theorem dX1_age_23 : decode cX1_age 23 = .ok (.ireturn, 1) := by decide +kernel
theorem dX1_wasSent_0 : decode cX1_wasSent 0 = .ok (.aload_n 0, 1) := by decide +kernel
theorem dX1_wasSent_1 : decode cX1_wasSent 1 = .ok (.getfield 22, 3) := by decide +kernel
theorem dX1_wasSent_4 : decode cX1_wasSent 4 = .ok (.iload_n 1, 1) := by decide +kernel
theorem dX1_wasSent_5 : decode cX1_wasSent 5 = .ok (.ishr, 1) := by decide +kernel
theorem dX1_wasSent_6 : decode cX1_wasSent 6 = .ok (.iconst 1, 1) := by decide +kernel
theorem dX1_wasSent_7 : decode cX1_wasSent 7 = .ok (.iand, 1) := by decide +kernel
theorem dX1_wasSent_8 : decode cX1_wasSent 8 = .ok (.iconst 1, 1) := by decide +kernel
theorem dX1_wasSent_9 : decode cX1_wasSent 9 = .ok (.if_icmp .ne 7, 3) := by decide +kernel
theorem dX1_wasSent_12 : decode cX1_wasSent 12 = .ok (.iconst 1, 1) := by decide +kernel
theorem dX1_wasSent_13 : decode cX1_wasSent 13 = .ok (.goto 4, 3) := by decide +kernel
theorem dX1_wasSent_16 : decode cX1_wasSent 16 = .ok (.iconst 0, 1) := by decide +kernel
theorem dX1_wasSent_17 : decode cX1_wasSent 17 = .ok (.ireturn, 1) := by decide +kernel
theorem dX1_beCut_0 : decode cX1_beCut 0 = .ok (.iload_n 1, 1) := by decide +kernel
theorem dX1_beCut_1 : decode cX1_beCut 1 = .ok (.ifCond .lt 19, 3) := by decide +kernel
theorem dX1_beCut_4 : decode cX1_beCut 4 = .ok (.iload_n 1, 1) := by decide +kernel
theorem dX1_beCut_5 : decode cX1_beCut 5 = .ok (.aload_n 0, 1) := by decide +kernel
theorem dX1_beCut_6 : decode cX1_beCut 6 = .ok (.getfield 9, 3) := by decide +kernel
theorem dX1_beCut_9 : decode cX1_beCut 9 = .ok (.arraylength, 1) := by decide +kernel
theorem dX1_beCut_10 : decode cX1_beCut 10 = .ok (.if_icmp .ge 10, 3) := by decide +kernel
theorem dX1_beCut_13 : decode cX1_beCut 13 = .ok (.aload_n 0, 1) := by decide +kernel
theorem dX1_beCut_14 : decode cX1_beCut 14 = .ok (.getfield 9, 3) := by decide +kernel
theorem dX1_beCut_17 : decode cX1_beCut 17 = .ok (.iload_n 1, 1) := by decide +kernel
theorem dX1_beCut_18 : decode cX1_beCut 18 = .ok (.iconst 0, 1) := by decide +kernel
theorem dX1_beCut_19 : decode cX1_beCut 19 = .ok (.iastore, 1) := by decide +kernel
theorem dX1_beCut_20 : decode cX1_beCut 20 = .ok (.return_, 1) := by decide +kernel
theorem dX1_growOlder_0 : decode cX1_growOlder 0 = .ok (.iconst 0, 1) := by decide +kernel
theorem dX1_growOlder_1 : decode cX1_growOlder 1 = .ok (.istore_n 1, 1) := by decide +kernel
theorem dX1_growOlder_2 : decode cX1_growOlder 2 = .ok (.iload_n 1, 1) := by decide +kernel
theorem dX1_growOlder_3 : decode cX1_growOlder 3 = .ok (.aload_n 0, 1) := by decide +kernel
theorem dX1_growOlder_4 : decode cX1_growOlder 4 = .ok (.getfield 9, 3) := by decide +kernel
theorem dX1_growOlder_7 : decode cX1_growOlder 7 = .ok (.arraylength, 1) := by decide +kernel
theorem dX1_growOlder_8 : decode cX1_growOlder 8 = .ok (.if_icmp .ge 28, 3) := by decide +kernel
theorem dX1_growOlder_11 : decode cX1_growOlder 11 = .ok (.aload_n 0, 1) := by decide +kernel
theorem dX1_growOlder_12 : decode cX1_growOlder 12 = .ok (.getfield 9, 3) := by decide +kernel
theorem dX1_growOlder_15 : decode cX1_growOlder 15 = .ok (.iload_n 1, 1) := by decide +kernel
theorem dX1_growOlder_16 : decode cX1_growOlder 16 = .ok (.bipush 40, 2) := by decide +kernel
theorem dX1_growOlder_18 : decode cX1_growOlder 18 = .ok (.aload_n 0, 1) := by decide +kernel
theorem dX1_growOlder_19 : decode cX1_growOlder 19 = .ok (.getfield 9, 3) := by decide +kernel
theorem dX1_growOlder_22 : decode cX1_growOlder 22 = .ok (.iload_n 1, 1) := by decide +kernel
theorem dX1_growOlder_23 : decode cX1_growOlder 23 = .ok (.iaload, 1) := by decide +kernel
theorem dX1_growOlder_24 : decode cX1_growOlder 24 = .ok (.iconst 1, 1) := by decide +kernel
theorem dX1_growOlder_25 : decode cX1_growOlder 25 = .ok (.iadd, 1) := by decide +kernel
theorem dX1_growOlder_26 : decode cX1_growOlder 26 = .ok (.invokestatic 26, 3) := by decide +kernel
theorem dX1_growOlder_29 : decode cX1_growOlder 29 = .ok (.iastore, 1) := by decide +kernel
theorem dX1_growOlder_30 : decode cX1_growOlder 30 = .ok (.iinc 1 1, 3) := by decide +kernel
theorem dX1_growOlder_33 : decode cX1_growOlder 33 = .ok (.goto (-31), 3) := by decide +kernel
theorem dX1_growOlder_36 : decode cX1_growOlder 36 = .ok (.return_, 1) := by decide +kernel
theorem dX1_begin_0 : decode cX1_begin 0 = .ok (.iconst 0, 1) := by decide +kernel
theorem dX1_begin_1 : decode cX1_begin 1 = .ok (.istore_n 2, 1) := by decide +kernel
theorem dX1_begin_2 : decode cX1_begin 2 = .ok (.iload_n 2, 1) := by decide +kernel
theorem dX1_begin_3 : decode cX1_begin 3 = .ok (.aload_n 0, 1) := by decide +kernel
theorem dX1_begin_4 : decode cX1_begin 4 = .ok (.getfield 9, 3) := by decide +kernel
theorem dX1_begin_7 : decode cX1_begin 7 = .ok (.arraylength, 1) := by decide +kernel
theorem dX1_begin_8 : decode cX1_begin 8 = .ok (.if_icmp .ge 21, 3) := by decide +kernel
theorem dX1_begin_11 : decode cX1_begin 11 = .ok (.aload_n 0, 1) := by decide +kernel
theorem dX1_begin_12 : decode cX1_begin 12 = .ok (.getfield 9, 3) := by decide +kernel
theorem dX1_begin_15 : decode cX1_begin 15 = .ok (.iload_n 2, 1) := by decide +kernel
theorem dX1_begin_16 : decode cX1_begin 16 = .ok (.aload_n 1, 1) := by decide +kernel
theorem dX1_begin_17 : decode cX1_begin 17 = .ok (.iconst 1, 1) := by decide +kernel
theorem dX1_begin_18 : decode cX1_begin 18 = .ok (.iload_n 2, 1) := by decide +kernel
theorem dX1_begin_19 : decode cX1_begin 19 = .ok (.invokevirtual 32, 3) := by decide +kernel
theorem dX1_begin_22 : decode cX1_begin 22 = .ok (.iastore, 1) := by decide +kernel
theorem dX1_begin_23 : decode cX1_begin 23 = .ok (.iinc 2 1, 3) := by decide +kernel
theorem dX1_begin_26 : decode cX1_begin 26 = .ok (.goto (-24), 3) := by decide +kernel
theorem dX1_begin_29 : decode cX1_begin 29 = .ok (.aload_n 0, 1) := by decide +kernel
theorem dX1_begin_30 : decode cX1_begin 30 = .ok (.getfield 18, 3) := by decide +kernel
theorem dX1_begin_33 : decode cX1_begin 33 = .ok (.aload_n 1, 1) := by decide +kernel
theorem dX1_begin_34 : decode cX1_begin 34 = .ok (.invokevirtual 35, 3) := by decide +kernel
theorem dX1_begin_37 : decode cX1_begin 37 = .ok (.invokevirtual 39, 3) := by decide +kernel
theorem dX1_begin_40 : decode cX1_begin 40 = .ok (.aload_n 0, 1) := by decide +kernel
theorem dX1_begin_41 : decode cX1_begin 41 = .ok (.iconst 0, 1) := by decide +kernel
theorem dX1_begin_42 : decode cX1_begin 42 = .ok (.putfield 43, 3) := by decide +kernel
theorem dX1_begin_45 : decode cX1_begin 45 = .ok (.aload_n 0, 1) := by decide +kernel
theorem dX1_begin_46 : decode cX1_begin 46 = .ok (.iconst 0, 1) := by decide +kernel
theorem dX1_begin_47 : decode cX1_begin 47 = .ok (.putfield 46, 3) := by decide +kernel
theorem dX1_begin_50 : decode cX1_begin 50 = .ok (.aload_n 0, 1) := by decide +kernel
theorem dX1_begin_51 : decode cX1_begin 51 = .ok (.iconst 0, 1) := by decide +kernel
theorem dX1_begin_52 : decode cX1_begin 52 = .ok (.putfield 49, 3) := by decide +kernel
theorem dX1_begin_55 : decode cX1_begin 55 = .ok (.aload_n 0, 1) := by decide +kernel
theorem dX1_begin_56 : decode cX1_begin 56 = .ok (.iconst 0, 1) := by decide +kernel
theorem dX1_begin_57 : decode cX1_begin 57 = .ok (.putfield 52, 3) := by decide +kernel
theorem dX1_begin_60 : decode cX1_begin 60 = .ok (.aload_n 0, 1) := by decide +kernel
theorem dX1_begin_61 : decode cX1_begin 61 = .ok (.iconst 0, 1) := by decide +kernel
theorem dX1_begin_62 : decode cX1_begin 62 = .ok (.putfield 22, 3) := by decide +kernel
theorem dX1_begin_65 : decode cX1_begin 65 = .ok (.aload_n 0, 1) := by decide +kernel
theorem dX1_begin_66 : decode cX1_begin 66 = .ok (.iconst 0, 1) := by decide +kernel
theorem dX1_begin_67 : decode cX1_begin 67 = .ok (.putfield 55, 3) := by decide +kernel
theorem dX1_begin_70 : decode cX1_begin 70 = .ok (.return_, 1) := by decide +kernel
theorem dX1_setAs_0 : decode cX1_setAs 0 = .ok (.iconst 0, 1) := by decide +kernel
theorem dX1_setAs_1 : decode cX1_setAs 1 = .ok (.istore_n 2, 1) := by decide +kernel
theorem dX1_setAs_2 : decode cX1_setAs 2 = .ok (.iload_n 2, 1) := by decide +kernel
theorem dX1_setAs_3 : decode cX1_setAs 3 = .ok (.aload_n 0, 1) := by decide +kernel
theorem dX1_setAs_4 : decode cX1_setAs 4 = .ok (.getfield 9, 3) := by decide +kernel
theorem dX1_setAs_7 : decode cX1_setAs 7 = .ok (.arraylength, 1) := by decide +kernel
theorem dX1_setAs_8 : decode cX1_setAs 8 = .ok (.if_icmp .ge 20, 3) := by decide +kernel
theorem dX1_setAs_11 : decode cX1_setAs 11 = .ok (.aload_n 0, 1) := by decide +kernel
theorem dX1_setAs_12 : decode cX1_setAs 12 = .ok (.getfield 9, 3) := by decide +kernel
theorem dX1_setAs_15 : decode cX1_setAs 15 = .ok (.iload_n 2, 1) := by decide +kernel
theorem dX1_setAs_16 : decode cX1_setAs 16 = .ok (.aload_n 1, 1) := by decide +kernel
theorem dX1_setAs_17 : decode cX1_setAs 17 = .ok (.iload_n 2, 1) := by decide +kernel
theorem dX1_setAs_18 : decode cX1_setAs 18 = .ok (.invokevirtual 58, 3) := by decide +kernel
theorem dX1_setAs_21 : decode cX1_setAs 21 = .ok (.iastore, 1) := by decide +kernel
theorem dX1_setAs_22 : decode cX1_setAs 22 = .ok (.iinc 2 1, 3) := by decide +kernel
theorem dX1_setAs_25 : decode cX1_setAs 25 = .ok (.goto (-23), 3) := by decide +kernel
theorem dX1_setAs_28 : decode cX1_setAs 28 = .ok (.aload_n 0, 1) := by decide +kernel
theorem dX1_setAs_29 : decode cX1_setAs 29 = .ok (.getfield 18, 3) := by decide +kernel
theorem dX1_setAs_32 : decode cX1_setAs 32 = .ok (.aload_n 1, 1) := by decide +kernel
theorem dX1_setAs_33 : decode cX1_setAs 33 = .ok (.getfield 18, 3) := by decide +kernel
theorem dX1_setAs_36 : decode cX1_setAs 36 = .ok (.invokevirtual 62, 3) := by decide +kernel
theorem dX1_setAs_39 : decode cX1_setAs 39 = .ok (.aload_n 0, 1) := by decide +kernel
theorem dX1_setAs_40 : decode cX1_setAs 40 = .ok (.aload_n 1, 1) := by decide +kernel
theorem dX1_setAs_41 : decode cX1_setAs 41 = .ok (.getfield 43, 3) := by decide +kernel
theorem dX1_setAs_44 : decode cX1_setAs 44 = .ok (.putfield 43, 3) := by decide +kernel
theorem dX1_setAs_47 : decode cX1_setAs 47 = .ok (.aload_n 0, 1) := by decide +kernel
theorem dX1_setAs_48 : decode cX1_setAs 48 = .ok (.aload_n 1, 1) := by decide +kernel
theorem dX1_setAs_49 : decode cX1_setAs 49 = .ok (.getfield 46, 3) := by decide +kernel
theorem dX1_setAs_52 : decode cX1_setAs 52 = .ok (.putfield 46, 3) := by decide +kernel
theorem dX1_setAs_55 : decode cX1_setAs 55 = .ok (.aload_n 0, 1) := by decide +kernel
theorem dX1_setAs_56 : decode cX1_setAs 56 = .ok (.aload_n 1, 1) := by decide +kernel
theorem dX1_setAs_57 : decode cX1_setAs 57 = .ok (.getfield 49, 3) := by decide +kernel
theorem dX1_setAs_60 : decode cX1_setAs 60 = .ok (.putfield 49, 3) := by decide +kernel
theorem dX1_setAs_63 : decode cX1_setAs 63 = .ok (.aload_n 0, 1) := by decide +kernel
theorem dX1_setAs_64 : decode cX1_setAs 64 = .ok (.aload_n 1, 1) := by decide +kernel
theorem dX1_setAs_65 : decode cX1_setAs 65 = .ok (.getfield 52, 3) := by decide +kernel
theorem dX1_setAs_68 : decode cX1_setAs 68 = .ok (.putfield 52, 3) := by decide +kernel
theorem dX1_setAs_71 : decode cX1_setAs 71 = .ok (.aload_n 0, 1) := by decide +kernel
theorem dX1_setAs_72 : decode cX1_setAs 72 = .ok (.aload_n 1, 1) := by decide +kernel
theorem dX1_setAs_73 : decode cX1_setAs 73 = .ok (.getfield 22, 3) := by decide +kernel
theorem dX1_setAs_76 : decode cX1_setAs 76 = .ok (.putfield 22, 3) := by decide +kernel
theorem dX1_setAs_79 : decode cX1_setAs 79 = .ok (.aload_n 0, 1) := by decide +kernel
theorem dX1_setAs_80 : decode cX1_setAs 80 = .ok (.aload_n 1, 1) := by decide +kernel
theorem dX1_setAs_81 : decode cX1_setAs 81 = .ok (.getfield 55, 3) := by decide +kernel
theorem dX1_setAs_84 : decode cX1_setAs 84 = .ok (.putfield 55, 3) := by decide +kernel
theorem dX1_setAs_87 : decode cX1_setAs 87 = .ok (.return_, 1) := by decide +kernel
theorem dX2_init_0 : decode cX2_init 0 = .ok (.aload_n 0, 1) := by decide +kernel
theorem dX2_init_1 : decode cX2_init 1 = .ok (.invokespecial 3, 3) := by decide +kernel
theorem dX2_init_4 : decode cX2_init 4 = .ok (.aload_n 0, 1) := by decide +kernel
theorem dX2_init_5 : decode cX2_init 5 = .ok (.iconst 4, 1) := by decide +kernel
theorem dX2_init_6 : decode cX2_init 6 = .ok (.newarray .int, 2) := by decide +kernel
theorem dX2_init_8 : decode cX2_init 8 = .ok (.putfield 11, 3) := by decide +kernel
theorem dX2_init_11 : decode cX2_init 11 = .ok (.aload_n 0, 1) := by decide +kernel
theorem dX2_init_12 : decode cX2_init 12 = .ok (.iconst 4, 1) := by decide +kernel
theorem dX2_init_13 : decode cX2_init 13 = .ok (.newarray .int, 2) := by decide +kernel
theorem dX2_init_15 : decode cX2_init 15 = .ok (.putfield 15, 3) := by decide +kernel
theorem dX2_init_18 : decode cX2_init 18 = .ok (.aload_n 0, 1) := by decide +kernel
theorem dX2_init_19 : decode cX2_init 19 = .ok (.iconst 5, 1) := by decide +kernel
theorem dX2_init_20 : decode cX2_init 20 = .ok (.newarray .int, 2) := by decide +kernel
theorem dX2_init_22 : decode cX2_init 22 = .ok (.putfield 18, 3) := by decide +kernel
theorem dX2_init_25 : decode cX2_init 25 = .ok (.return_, 1) := by decide +kernel
theorem dX2_mostTwigs_0 : decode cX2_mostTwigs 0 = .ok (.aload_n 0, 1) := by decide +kernel
theorem dX2_mostTwigs_1 : decode cX2_mostTwigs 1 = .ok (.getfield 21, 3) := by decide +kernel
theorem dX2_mostTwigs_4 : decode cX2_mostTwigs 4 = .ok (.ireturn, 1) := by decide +kernel
theorem dX2_chosenIn_0 : decode cX2_chosenIn 0 = .ok (.iload_n 1, 1) := by decide +kernel
theorem dX2_chosenIn_1 : decode cX2_chosenIn 1 = .ok (.ifCond .lt 8, 3) := by decide +kernel
theorem dX2_chosenIn_4 : decode cX2_chosenIn 4 = .ok (.iload_n 1, 1) := by decide +kernel
theorem dX2_chosenIn_5 : decode cX2_chosenIn 5 = .ok (.iconst 4, 1) := by decide +kernel
theorem dX2_chosenIn_6 : decode cX2_chosenIn 6 = .ok (.if_icmp .lt 6, 3) := by decide +kernel
theorem dX2_chosenIn_9 : decode cX2_chosenIn 9 = .ok (.bipush (-9), 2) := by decide +kernel
theorem dX2_chosenIn_11 : decode cX2_chosenIn 11 = .ok (.ireturn, 1) := by decide +kernel
theorem dX2_chosenIn_12 : decode cX2_chosenIn 12 = .ok (.aload_n 0, 1) := by decide +kernel
theorem dX2_chosenIn_13 : decode cX2_chosenIn 13 = .ok (.getfield 15, 3) := by decide +kernel
theorem dX2_chosenIn_16 : decode cX2_chosenIn 16 = .ok (.iload_n 1, 1) := by decide +kernel
theorem dX2_chosenIn_17 : decode cX2_chosenIn 17 = .ok (.iaload, 1) := by decide +kernel
theorem dX2_chosenIn_18 : decode cX2_chosenIn 18 = .ok (.iconst (-1), 1) := by decide +kernel
theorem dX2_chosenIn_19 : decode cX2_chosenIn 19 = .ok (.if_icmp .ne 8, 3) := by decide +kernel
theorem dX2_chosenIn_22 : decode cX2_chosenIn 22 = .ok (.bipush (-5), 2) := by decide +kernel
theorem dX2_chosenIn_24 : decode cX2_chosenIn 24 = .ok (.goto 9, 3) := by decide +kernel
theorem dX2_chosenIn_27 : decode cX2_chosenIn 27 = .ok (.aload_n 0, 1) := by decide +kernel
theorem dX2_chosenIn_28 : decode cX2_chosenIn 28 = .ok (.getfield 15, 3) := by decide +kernel
theorem dX2_chosenIn_31 : decode cX2_chosenIn 31 = .ok (.iload_n 1, 1) := by decide +kernel
theorem dX2_chosenIn_32 : decode cX2_chosenIn 32 = .ok (.iaload, 1) := by decide +kernel
theorem dX2_chosenIn_33 : decode cX2_chosenIn 33 = .ok (.ireturn, 1) := by decide +kernel
theorem dX2_find_0 : decode cX2_find 0 = .ok (.iconst 0, 1) := by decide +kernel
theorem dX2_find_1 : decode cX2_find 1 = .ok (.iconst 4, 1) := by decide +kernel
theorem dX2_find_2 : decode cX2_find 2 = .ok (.iload_n 3, 1) := by decide +kernel
theorem dX2_find_3 : decode cX2_find 3 = .ok (.invokestatic 25, 3) := by decide +kernel
theorem dX2_find_6 : decode cX2_find 6 = .ok (.invokestatic 31, 3) := by decide +kernel
theorem dX2_find_9 : decode cX2_find 9 = .ok (.istore 4, 2) := by decide +kernel
theorem dX2_find_11 : decode cX2_find 11 = .ok (.aload_n 0, 1) := by decide +kernel
theorem dX2_find_12 : decode cX2_find 12 = .ok (.iconst (-1), 1) := by decide +kernel
theorem dX2_find_13 : decode cX2_find 13 = .ok (.putfield 21, 3) := by decide +kernel
theorem dX2_find_16 : decode cX2_find 16 = .ok (.iconst 0, 1) := by decide +kernel
theorem dX2_find_17 : decode cX2_find 17 = .ok (.istore 5, 2) := by decide +kernel
theorem dX2_find_19 : decode cX2_find 19 = .ok (.iload 5, 2) := by decide +kernel
theorem dX2_find_21 : decode cX2_find 21 = .ok (.iconst 4, 1) := by decide +kernel
theorem dX2_find_22 : decode cX2_find 22 = .ok (.if_icmp .ge 17, 3) := by decide +kernel
theorem dX2_find_25 : decode cX2_find 25 = .ok (.aload_n 0, 1) := by decide +kernel
theorem dX2_find_26 : decode cX2_find 26 = .ok (.getfield 11, 3) := by decide +kernel
theorem dX2_find_29 : decode cX2_find 29 = .ok (.iload 5, 2) := by decide +kernel
theorem dX2_find_31 : decode cX2_find 31 = .ok (.iconst (-1), 1) := by decide +kernel
theorem dX2_find_32 : decode cX2_find 32 = .ok (.iastore, 1) := by decide +kernel
theorem dX2_find_33 : decode cX2_find 33 = .ok (.iinc 5 1, 3) := by decide +kernel
theorem dX2_find_36 : decode cX2_find 36 = .ok (.goto (-17), 3) := by decide +kernel
theorem dX2_find_39 : decode cX2_find 39 = .ok (.iconst 0, 1) := by decide +kernel
theorem dX2_find_40 : decode cX2_find 40 = .ok (.istore 5, 2) := by decide +kernel
theorem dX2_find_42 : decode cX2_find 42 = .ok (.iconst 0, 1) := by decide +kernel
theorem dX2_find_43 : decode cX2_find 43 = .ok (.istore 6, 2) := by decide +kernel
theorem dX2_find_45 : decode cX2_find 45 = .ok (.iload 6, 2) := by decide +kernel
theorem dX2_find_47 : decode cX2_find 47 = .ok (.sipush 2401, 3) := by decide +kernel
theorem dX2_find_50 : decode cX2_find 50 = .ok (.if_icmp .ge 79, 3) := by decide +kernel
theorem dX2_find_53 : decode cX2_find 53 = .ok (.iload 5, 2) := by decide +kernel
theorem dX2_find_55 : decode cX2_find 55 = .ok (.ifCond .lt 74, 3) := by decide +kernel
theorem dX2_find_58 : decode cX2_find 58 = .ok (.iload 5, 2) := by decide +kernel
theorem dX2_find_60 : decode cX2_find 60 = .ok (.istore 7, 2) := by decide +kernel
theorem dX2_find_62 : decode cX2_find 62 = .ok (.iload 7, 2) := by decide +kernel
theorem dX2_find_64 : decode cX2_find 64 = .ok (.iload 4, 2) := by decide +kernel
theorem dX2_find_66 : decode cX2_find 66 = .ok (.if_icmp .ge 34, 3) := by decide +kernel
theorem dX2_find_69 : decode cX2_find 69 = .ok (.aload_n 0, 1) := by decide +kernel
theorem dX2_find_70 : decode cX2_find 70 = .ok (.getfield 18, 3) := by decide +kernel
theorem dX2_find_73 : decode cX2_find 73 = .ok (.iload 7, 2) := by decide +kernel
theorem dX2_find_75 : decode cX2_find 75 = .ok (.iconst 1, 1) := by decide +kernel
theorem dX2_find_76 : decode cX2_find 76 = .ok (.iadd, 1) := by decide +kernel
theorem dX2_find_77 : decode cX2_find 77 = .ok (.aload_n 0, 1) := by decide +kernel
theorem dX2_find_78 : decode cX2_find 78 = .ok (.getfield 18, 3) := by decide +kernel
theorem dX2_find_81 : decode cX2_find 81 = .ok (.iload 7, 2) := by decide +kernel
theorem dX2_find_83 : decode cX2_find 83 = .ok (.iaload, 1) := by decide +kernel
theorem dX2_find_84 : decode cX2_find 84 = .ok (.aload_n 0, 1) := by decide +kernel
theorem dX2_find_85 : decode cX2_find 85 = .ok (.iload 7, 2) := by decide +kernel
theorem dX2_find_87 : decode cX2_find 87 = .ok (.aload_n 1, 1) := by decide +kernel
theorem dX2_find_88 : decode cX2_find 88 = .ok (.aload_n 2, 1) := by decide +kernel
theorem dX2_find_89 : decode cX2_find 89 = .ok (.invokevirtual 34, 3) := by decide +kernel
theorem dX2_find_92 : decode cX2_find 92 = .ok (.iadd, 1) := by decide +kernel
theorem dX2_find_93 : decode cX2_find 93 = .ok (.iastore, 1) := by decide +kernel
theorem dX2_find_94 : decode cX2_find 94 = .ok (.iinc 7 1, 3) := by decide +kernel
theorem dX2_find_97 : decode cX2_find 97 = .ok (.goto (-35), 3) := by decide +kernel
theorem dX2_find_100 : decode cX2_find 100 = .ok (.aload_n 0, 1) := by decide +kernel
theorem dX2_find_101 : decode cX2_find 101 = .ok (.aload_n 0, 1) := by decide +kernel
theorem dX2_find_102 : decode cX2_find 102 = .ok (.getfield 18, 3) := by decide +kernel
theorem dX2_find_105 : decode cX2_find 105 = .ok (.iload 4, 2) := by decide +kernel
theorem dX2_find_107 : decode cX2_find 107 = .ok (.iaload, 1) := by decide +kernel
theorem dX2_find_108 : decode cX2_find 108 = .ok (.invokevirtual 38, 3) := by decide +kernel
theorem dX2_find_111 : decode cX2_find 111 = .ok (.aload_n 0, 1) := by decide +kernel
theorem dX2_find_112 : decode cX2_find 112 = .ok (.iload 4, 2) := by decide +kernel
theorem dX2_find_114 : decode cX2_find 114 = .ok (.aload_n 1, 1) := by decide +kernel
theorem dX2_find_115 : decode cX2_find 115 = .ok (.invokevirtual 42, 3) := by decide +kernel
theorem dX2_find_118 : decode cX2_find 118 = .ok (.invokevirtual 48, 3) := by decide +kernel
theorem dX2_find_121 : decode cX2_find 121 = .ok (.istore 5, 2) := by decide +kernel
theorem dX2_find_123 : decode cX2_find 123 = .ok (.iinc 6 1, 3) := by decide +kernel
theorem dX2_find_126 : decode cX2_find 126 = .ok (.goto (-81), 3) := by decide +kernel
theorem dX2_find_129 : decode cX2_find 129 = .ok (.return_, 1) := by decide +kernel
theorem dX2_gotIn_0 : decode cX2_gotIn 0 = .ok (.aload_n 0, 1) := by decide +kernel
theorem dX2_gotIn_1 : decode cX2_gotIn 1 = .ok (.getfield 11, 3) := by decide +kernel
theorem dX2_gotIn_4 : decode cX2_gotIn 4 = .ok (.iload_n 1, 1) := by decide +kernel
theorem dX2_gotIn_5 : decode cX2_gotIn 5 = .ok (.iaload, 1) := by decide +kernel
theorem dX2_gotIn_6 : decode cX2_gotIn 6 = .ok (.istore 4, 2) := by decide +kernel
theorem dX2_gotIn_8 : decode cX2_gotIn 8 = .ok (.iload 4, 2) := by decide +kernel
theorem dX2_gotIn_10 : decode cX2_gotIn 10 = .ok (.iconst (-1), 1) := by decide +kernel
theorem dX2_gotIn_11 : decode cX2_gotIn 11 = .ok (.if_icmp .ne 5, 3) := by decide +kernel
theorem dX2_gotIn_14 : decode cX2_gotIn 14 = .ok (.iconst 0, 1) := by decide +kernel
theorem dX2_gotIn_15 : decode cX2_gotIn 15 = .ok (.ireturn, 1) := by decide +kernel
theorem dX2_gotIn_16 : decode cX2_gotIn 16 = .ok (.aload_n 3, 1) := by decide +kernel
theorem dX2_gotIn_17 : decode cX2_gotIn 17 = .ok (.iload 4, 2) := by decide +kernel
theorem dX2_gotIn_19 : decode cX2_gotIn 19 = .ok (.invokevirtual 51, 3) := by decide +kernel
theorem dX2_gotIn_22 : decode cX2_gotIn 22 = .ok (.iload_n 1, 1) := by decide +kernel
theorem dX2_gotIn_23 : decode cX2_gotIn 23 = .ok (.iadd, 1) := by decide +kernel
theorem dX2_gotIn_24 : decode cX2_gotIn 24 = .ok (.istore 5, 2) := by decide +kernel
theorem dX2_gotIn_26 : decode cX2_gotIn 26 = .ok (.iconst 0, 1) := by decide +kernel
theorem dX2_gotIn_27 : decode cX2_gotIn 27 = .ok (.istore 6, 2) := by decide +kernel
theorem dX2_gotIn_29 : decode cX2_gotIn 29 = .ok (.iload 6, 2) := by decide +kernel
theorem dX2_gotIn_31 : decode cX2_gotIn 31 = .ok (.iload_n 1, 1) := by decide +kernel
theorem dX2_gotIn_32 : decode cX2_gotIn 32 = .ok (.if_icmp .ge 27, 3) := by decide +kernel
theorem dX2_gotIn_35 : decode cX2_gotIn 35 = .ok (.aload_n 0, 1) := by decide +kernel
theorem dX2_gotIn_36 : decode cX2_gotIn 36 = .ok (.getfield 11, 3) := by decide +kernel
theorem dX2_gotIn_39 : decode cX2_gotIn 39 = .ok (.iload 6, 2) := by decide +kernel
theorem dX2_gotIn_41 : decode cX2_gotIn 41 = .ok (.iaload, 1) := by decide +kernel
theorem dX2_gotIn_42 : decode cX2_gotIn 42 = .ok (.iload 4, 2) := by decide +kernel
theorem dX2_gotIn_44 : decode cX2_gotIn 44 = .ok (.if_icmp .ne 9, 3) := by decide +kernel
theorem dX2_gotIn_47 : decode cX2_gotIn 47 = .ok (.iload_n 1, 1) := by decide +kernel
theorem dX2_gotIn_48 : decode cX2_gotIn 48 = .ok (.iload 6, 2) := by decide +kernel
theorem dX2_gotIn_50 : decode cX2_gotIn 50 = .ok (.isub, 1) := by decide +kernel
theorem dX2_gotIn_51 : decode cX2_gotIn 51 = .ok (.istore 5, 2) := by decide +kernel
theorem dX2_gotIn_53 : decode cX2_gotIn 53 = .ok (.iinc 6 1, 3) := by decide +kernel
theorem dX2_gotIn_56 : decode cX2_gotIn 56 = .ok (.goto (-27), 3) := by decide +kernel
theorem dX2_gotIn_59 : decode cX2_gotIn 59 = .ok (.aload_n 2, 1) := by decide +kernel
theorem dX2_gotIn_60 : decode cX2_gotIn 60 = .ok (.iconst 0, 1) := by decide +kernel
theorem dX2_gotIn_61 : decode cX2_gotIn 61 = .ok (.iload 4, 2) := by decide +kernel
theorem dX2_gotIn_63 : decode cX2_gotIn 63 = .ok (.invokevirtual 57, 3) := by decide +kernel
theorem dX2_gotIn_66 : decode cX2_gotIn 66 = .ok (.iload 5, 2) := by decide +kernel
theorem dX2_gotIn_68 : decode cX2_gotIn 68 = .ok (.aload_n 2, 1) := by decide +kernel
theorem dX2_gotIn_69 : decode cX2_gotIn 69 = .ok (.invokevirtual 60, 3) := by decide +kernel
theorem dX2_gotIn_72 : decode cX2_gotIn 72 = .ok (.invokestatic 63, 3) := by decide +kernel
theorem dX2_gotIn_75 : decode cX2_gotIn 75 = .ok (.ireturn, 1) := by decide +kernel
theorem dX2_goToNextRow_0 : decode cX2_goToNextRow 0 = .ok (.iload_n 1, 1) := by decide +kernel
theorem dX2_goToNextRow_1 : decode cX2_goToNextRow 1 = .ok (.iconst 1, 1) := by decide +kernel
theorem dX2_goToNextRow_2 : decode cX2_goToNextRow 2 = .ok (.isub, 1) := by decide +kernel
theorem dX2_goToNextRow_3 : decode cX2_goToNextRow 3 = .ok (.istore_n 3, 1) := by decide +kernel
theorem dX2_goToNextRow_4 : decode cX2_goToNextRow 4 = .ok (.iload_n 3, 1) := by decide +kernel
theorem dX2_goToNextRow_5 : decode cX2_goToNextRow 5 = .ok (.ifCond .lt 40, 3) := by decide +kernel
theorem dX2_goToNextRow_8 : decode cX2_goToNextRow 8 = .ok (.aload_n 0, 1) := by decide +kernel
theorem dX2_goToNextRow_9 : decode cX2_goToNextRow 9 = .ok (.getfield 11, 3) := by decide +kernel
theorem dX2_goToNextRow_12 : decode cX2_goToNextRow 12 = .ok (.iload_n 3, 1) := by decide +kernel
theorem dX2_goToNextRow_13 : decode cX2_goToNextRow 13 = .ok (.iaload, 1) := by decide +kernel
theorem dX2_goToNextRow_14 : decode cX2_goToNextRow 14 = .ok (.iconst 1, 1) := by decide +kernel
theorem dX2_goToNextRow_15 : decode cX2_goToNextRow 15 = .ok (.iadd, 1) := by decide +kernel
theorem dX2_goToNextRow_16 : decode cX2_goToNextRow 16 = .ok (.iload_n 2, 1) := by decide +kernel
theorem dX2_goToNextRow_17 : decode cX2_goToNextRow 17 = .ok (.if_icmp .ge 15, 3) := by decide +kernel
theorem dX2_goToNextRow_20 : decode cX2_goToNextRow 20 = .ok (.aload_n 0, 1) := by decide +kernel
theorem dX2_goToNextRow_21 : decode cX2_goToNextRow 21 = .ok (.getfield 11, 3) := by decide +kernel
theorem dX2_goToNextRow_24 : decode cX2_goToNextRow 24 = .ok (.iload_n 3, 1) := by decide +kernel
theorem dX2_goToNextRow_25 : decode cX2_goToNextRow 25 = .ok (.dup2, 1) := by decide +kernel
theorem dX2_goToNextRow_26 : decode cX2_goToNextRow 26 = .ok (.iaload, 1) := by decide +kernel
theorem dX2_goToNextRow_27 : decode cX2_goToNextRow 27 = .ok (.iconst 1, 1) := by decide +kernel
theorem dX2_goToNextRow_28 : decode cX2_goToNextRow 28 = .ok (.iadd, 1) := by decide +kernel
theorem dX2_goToNextRow_29 : decode cX2_goToNextRow 29 = .ok (.iastore, 1) := by decide +kernel
theorem dX2_goToNextRow_30 : decode cX2_goToNextRow 30 = .ok (.iload_n 3, 1) := by decide +kernel
theorem dX2_goToNextRow_31 : decode cX2_goToNextRow 31 = .ok (.ireturn, 1) := by decide +kernel
theorem dX2_goToNextRow_32 : decode cX2_goToNextRow 32 = .ok (.aload_n 0, 1) := by decide +kernel
theorem dX2_goToNextRow_33 : decode cX2_goToNextRow 33 = .ok (.getfield 11, 3) := by decide +kernel
theorem dX2_goToNextRow_36 : decode cX2_goToNextRow 36 = .ok (.iload_n 3, 1) := by decide +kernel
theorem dX2_goToNextRow_37 : decode cX2_goToNextRow 37 = .ok (.iconst (-1), 1) := by decide +kernel
theorem dX2_goToNextRow_38 : decode cX2_goToNextRow 38 = .ok (.iastore, 1) := by decide +kernel
theorem dX2_goToNextRow_39 : decode cX2_goToNextRow 39 = .ok (.iinc 3 (-1), 3) := by decide +kernel
theorem dX2_goToNextRow_42 : decode cX2_goToNextRow 42 = .ok (.goto (-38), 3) := by decide +kernel
theorem dX2_goToNextRow_45 : decode cX2_goToNextRow 45 = .ok (.iconst (-1), 1) := by decide +kernel
theorem dX2_goToNextRow_46 : decode cX2_goToNextRow 46 = .ok (.ireturn, 1) := by decide +kernel
theorem dX2_compare_0 : decode cX2_compare 0 = .ok (.iload_n 1, 1) := by decide +kernel
theorem dX2_compare_1 : decode cX2_compare 1 = .ok (.aload_n 0, 1) := by decide +kernel
theorem dX2_compare_2 : decode cX2_compare 2 = .ok (.getfield 21, 3) := by decide +kernel
theorem dX2_compare_5 : decode cX2_compare 5 = .ok (.if_icmp .le 33, 3) := by decide +kernel
theorem dX2_compare_8 : decode cX2_compare 8 = .ok (.aload_n 0, 1) := by decide +kernel
theorem dX2_compare_9 : decode cX2_compare 9 = .ok (.iload_n 1, 1) := by decide +kernel
theorem dX2_compare_10 : decode cX2_compare 10 = .ok (.putfield 21, 3) := by decide +kernel
theorem dX2_compare_13 : decode cX2_compare 13 = .ok (.iconst 0, 1) := by decide +kernel
theorem dX2_compare_14 : decode cX2_compare 14 = .ok (.istore_n 2, 1) := by decide +kernel
theorem dX2_compare_15 : decode cX2_compare 15 = .ok (.iload_n 2, 1) := by decide +kernel
theorem dX2_compare_16 : decode cX2_compare 16 = .ok (.iconst 4, 1) := by decide +kernel
theorem dX2_compare_17 : decode cX2_compare 17 = .ok (.if_icmp .ge 21, 3) := by decide +kernel
theorem dX2_compare_20 : decode cX2_compare 20 = .ok (.aload_n 0, 1) := by decide +kernel
theorem dX2_compare_21 : decode cX2_compare 21 = .ok (.getfield 15, 3) := by decide +kernel
theorem dX2_compare_24 : decode cX2_compare 24 = .ok (.iload_n 2, 1) := by decide +kernel
theorem dX2_compare_25 : decode cX2_compare 25 = .ok (.aload_n 0, 1) := by decide +kernel
theorem dX2_compare_26 : decode cX2_compare 26 = .ok (.getfield 11, 3) := by decide +kernel
theorem dX2_compare_29 : decode cX2_compare 29 = .ok (.iload_n 2, 1) := by decide +kernel
theorem dX2_compare_30 : decode cX2_compare 30 = .ok (.iaload, 1) := by decide +kernel
theorem dX2_compare_31 : decode cX2_compare 31 = .ok (.iastore, 1) := by decide +kernel
theorem dX2_compare_32 : decode cX2_compare 32 = .ok (.iinc 2 1, 3) := by decide +kernel
theorem dX2_compare_35 : decode cX2_compare 35 = .ok (.goto (-20), 3) := by decide +kernel
theorem dX2_compare_38 : decode cX2_compare 38 = .ok (.return_, 1) := by decide +kernel
theorem dX3_init_0 : decode cX3_init 0 = .ok (.aload_n 0, 1) := by decide +kernel
theorem dX3_init_1 : decode cX3_init 1 = .ok (.invokespecial 1, 3) := by decide +kernel
theorem dX3_init_4 : decode cX3_init 4 = .ok (.aload_n 0, 1) := by decide +kernel
theorem dX3_init_5 : decode cX3_init 5 = .ok (.iconst 0, 1) := by decide +kernel
theorem dX3_init_6 : decode cX3_init 6 = .ok (.iload_n 1, 1) := by decide +kernel
theorem dX3_init_7 : decode cX3_init 7 = .ok (.invokestatic 7, 3) := by decide +kernel
theorem dX3_init_10 : decode cX3_init 10 = .ok (.anewarray 13, 3) := by decide +kernel
theorem dX3_init_13 : decode cX3_init 13 = .ok (.putfield 15, 3) := by decide +kernel
theorem dX3_init_16 : decode cX3_init 16 = .ok (.iconst 0, 1) := by decide +kernel
theorem dX3_init_17 : decode cX3_init 17 = .ok (.istore_n 2, 1) := by decide +kernel
theorem dX3_init_18 : decode cX3_init 18 = .ok (.iload_n 2, 1) := by decide +kernel
theorem dX3_init_19 : decode cX3_init 19 = .ok (.aload_n 0, 1) := by decide +kernel
theorem dX3_init_20 : decode cX3_init 20 = .ok (.getfield 15, 3) := by decide +kernel
theorem dX3_init_23 : decode cX3_init 23 = .ok (.arraylength, 1) := by decide +kernel
theorem dX3_init_24 : decode cX3_init 24 = .ok (.if_icmp .ge 22, 3) := by decide +kernel
theorem dX3_init_27 : decode cX3_init 27 = .ok (.aload_n 0, 1) := by decide +kernel
theorem dX3_init_28 : decode cX3_init 28 = .ok (.getfield 15, 3) := by decide +kernel
theorem dX3_init_31 : decode cX3_init 31 = .ok (.iload_n 2, 1) := by decide +kernel
theorem dX3_init_32 : decode cX3_init 32 = .ok (.new 13, 3) := by decide +kernel
theorem dX3_init_35 : decode cX3_init 35 = .ok (.dup, 1) := by decide +kernel
theorem dX3_init_36 : decode cX3_init 36 = .ok (.invokespecial 21, 3) := by decide +kernel
theorem dX3_init_39 : decode cX3_init 39 = .ok (.aastore, 1) := by decide +kernel
theorem dX3_init_40 : decode cX3_init 40 = .ok (.iinc 2 1, 3) := by decide +kernel
theorem dX3_init_43 : decode cX3_init 43 = .ok (.goto (-25), 3) := by decide +kernel
theorem dX3_init_46 : decode cX3_init 46 = .ok (.return_, 1) := by decide +kernel
theorem dX3_put_0 : decode cX3_put 0 = .ok (.aload_n 0, 1) := by decide +kernel
theorem dX3_put_1 : decode cX3_put 1 = .ok (.iload_n 1, 1) := by decide +kernel
theorem dX3_put_2 : decode cX3_put 2 = .ok (.invokevirtual 22, 3) := by decide +kernel
theorem dX3_put_5 : decode cX3_put 5 = .ok (.astore_n 3, 1) := by decide +kernel
theorem dX3_put_6 : decode cX3_put 6 = .ok (.aload_n 3, 1) := by decide +kernel
theorem dX3_put_7 : decode cX3_put 7 = .ok (.ifnull 8, 3) := by decide +kernel
theorem dX3_put_10 : decode cX3_put 10 = .ok (.aload_n 3, 1) := by decide +kernel
theorem dX3_put_11 : decode cX3_put 11 = .ok (.aload_n 2, 1) := by decide +kernel
theorem dX3_put_12 : decode cX3_put 12 = .ok (.invokevirtual 26, 3) := by decide +kernel
theorem dX3_put_15 : decode cX3_put 15 = .ok (.return_, 1) := by decide +kernel
theorem dX3_take_0 : decode cX3_take 0 = .ok (.aload_n 0, 1) := by decide +kernel
theorem dX3_take_1 : decode cX3_take 1 = .ok (.iload_n 1, 1) := by decide +kernel
theorem dX3_take_2 : decode cX3_take 2 = .ok (.invokevirtual 22, 3) := by decide +kernel
theorem dX3_take_5 : decode cX3_take 5 = .ok (.astore_n 3, 1) := by decide +kernel
theorem dX3_take_6 : decode cX3_take 6 = .ok (.aload_n 3, 1) := by decide +kernel
theorem dX3_take_7 : decode cX3_take 7 = .ok (.ifnull 8, 3) := by decide +kernel
theorem dX3_take_10 : decode cX3_take 10 = .ok (.aload_n 2, 1) := by decide +kernel
theorem dX3_take_11 : decode cX3_take 11 = .ok (.aload_n 3, 1) := by decide +kernel
theorem dX3_take_12 : decode cX3_take 12 = .ok (.invokevirtual 26, 3) := by decide +kernel
theorem dX3_take_15 : decode cX3_take 15 = .ok (.return_, 1) := by decide +kernel
theorem dX3_placeAt_0 : decode cX3_placeAt 0 = .ok (.iload_n 1, 1) := by decide +kernel
theorem dX3_placeAt_1 : decode cX3_placeAt 1 = .ok (.ifCond .lt 12, 3) := by decide +kernel
theorem dX3_placeAt_4 : decode cX3_placeAt 4 = .ok (.iload_n 1, 1) := by decide +kernel
theorem dX3_placeAt_5 : decode cX3_placeAt 5 = .ok (.aload_n 0, 1) := by decide +kernel
theorem dX3_placeAt_6 : decode cX3_placeAt 6 = .ok (.getfield 15, 3) := by decide +kernel
theorem dX3_placeAt_9 : decode cX3_placeAt 9 = .ok (.arraylength, 1) := by decide +kernel
theorem dX3_placeAt_10 : decode cX3_placeAt 10 = .ok (.if_icmp .lt 7, 3) := by decide +kernel
theorem dX3_placeAt_13 : decode cX3_placeAt 13 = .ok (.aconst_null, 1) := by decide +kernel
theorem dX3_placeAt_14 : decode cX3_placeAt 14 = .ok (.goto 9, 3) := by decide +kernel
theorem dX3_placeAt_17 : decode cX3_placeAt 17 = .ok (.aload_n 0, 1) := by decide +kernel
theorem dX3_placeAt_18 : decode cX3_placeAt 18 = .ok (.getfield 15, 3) := by decide +kernel
theorem dX3_placeAt_21 : decode cX3_placeAt 21 = .ok (.iload_n 1, 1) := by decide +kernel
theorem dX3_placeAt_22 : decode cX3_placeAt 22 = .ok (.aaload, 1) := by decide +kernel
theorem dX3_placeAt_23 : decode cX3_placeAt 23 = .ok (.areturn, 1) := by decide +kernel
theorem dX4_init_0 : decode cX4_init 0 = .ok (.aload_n 0, 1) := by decide +kernel
theorem dX4_init_1 : decode cX4_init 1 = .ok (.invokespecial 1, 3) := by decide +kernel
theorem dX4_init_4 : decode cX4_init 4 = .ok (.aload_n 0, 1) := by decide +kernel
theorem dX4_init_5 : decode cX4_init 5 = .ok (.sipush 200, 3) := by decide +kernel
theorem dX4_init_8 : decode cX4_init 8 = .ok (.newarray .char, 2) := by decide +kernel
theorem dX4_init_10 : decode cX4_init 10 = .ok (.putfield 9, 3) := by decide +kernel
theorem dX4_init_13 : decode cX4_init 13 = .ok (.return_, 1) := by decide +kernel
theorem dX4_size_0 : decode cX4_size 0 = .ok (.aload_n 0, 1) := by decide +kernel
theorem dX4_size_1 : decode cX4_size 1 = .ok (.getfield 13, 3) := by decide +kernel
theorem dX4_size_4 : decode cX4_size 4 = .ok (.ireturn, 1) := by decide +kernel
theorem dX4_empty_0 : decode cX4_empty 0 = .ok (.aload_n 0, 1) := by decide +kernel
theorem dX4_empty_1 : decode cX4_empty 1 = .ok (.iconst 0, 1) := by decide +kernel
theorem dX4_empty_2 : decode cX4_empty 2 = .ok (.putfield 13, 3) := by decide +kernel
theorem dX4_empty_5 : decode cX4_empty 5 = .ok (.return_, 1) := by decide +kernel
theorem dX4_add_0 : decode cX4_add 0 = .ok (.aload_n 0, 1) := by decide +kernel
theorem dX4_add_1 : decode cX4_add 1 = .ok (.getfield 13, 3) := by decide +kernel
theorem dX4_add_4 : decode cX4_add 4 = .ok (.ifCond .lt 13, 3) := by decide +kernel
theorem dX4_add_7 : decode cX4_add 7 = .ok (.aload_n 0, 1) := by decide +kernel
theorem dX4_add_8 : decode cX4_add 8 = .ok (.getfield 13, 3) := by decide +kernel
theorem dX4_add_11 : decode cX4_add 11 = .ok (.sipush 200, 3) := by decide +kernel
theorem dX4_add_14 : decode cX4_add 14 = .ok (.if_icmp .lt 5, 3) := by decide +kernel
theorem dX4_add_17 : decode cX4_add 17 = .ok (.iconst 0, 1) := by decide +kernel
theorem dX4_add_18 : decode cX4_add 18 = .ok (.ireturn, 1) := by decide +kernel
theorem dX4_add_19 : decode cX4_add 19 = .ok (.aload_n 0, 1) := by decide +kernel
theorem dX4_add_20 : decode cX4_add 20 = .ok (.getfield 9, 3) := by decide +kernel
theorem dX4_add_23 : decode cX4_add 23 = .ok (.aload_n 0, 1) := by decide +kernel
theorem dX4_add_24 : decode cX4_add 24 = .ok (.getfield 13, 3) := by decide +kernel
theorem dX4_add_27 : decode cX4_add 27 = .ok (.iload_n 1, 1) := by decide +kernel
theorem dX4_add_28 : decode cX4_add 28 = .ok (.castore, 1) := by decide +kernel
theorem dX4_add_29 : decode cX4_add 29 = .ok (.aload_n 0, 1) := by decide +kernel
theorem dX4_add_30 : decode cX4_add 30 = .ok (.dup, 1) := by decide +kernel
theorem dX4_add_31 : decode cX4_add 31 = .ok (.getfield 13, 3) := by decide +kernel
theorem dX4_add_34 : decode cX4_add 34 = .ok (.iconst 1, 1) := by decide +kernel
theorem dX4_add_35 : decode cX4_add 35 = .ok (.iadd, 1) := by decide +kernel
theorem dX4_add_36 : decode cX4_add 36 = .ok (.putfield 13, 3) := by decide +kernel
theorem dX4_add_39 : decode cX4_add 39 = .ok (.iconst 1, 1) := by decide +kernel
theorem dX4_add_40 : decode cX4_add 40 = .ok (.ireturn, 1) := by decide +kernel
theorem dX4_rewind_0 : decode cX4_rewind 0 = .ok (.aload_n 0, 1) := by decide +kernel
theorem dX4_rewind_1 : decode cX4_rewind 1 = .ok (.iconst 0, 1) := by decide +kernel
theorem dX4_rewind_2 : decode cX4_rewind 2 = .ok (.putfield 17, 3) := by decide +kernel
theorem dX4_rewind_5 : decode cX4_rewind 5 = .ok (.return_, 1) := by decide +kernel
theorem dX4_tokenStart_0 : decode cX4_tokenStart 0 = .ok (.aload_n 0, 1) := by decide +kernel
theorem dX4_tokenStart_1 : decode cX4_tokenStart 1 = .ok (.getfield 20, 3) := by decide +kernel
theorem dX4_tokenStart_4 : decode cX4_tokenStart 4 = .ok (.ireturn, 1) := by decide +kernel
theorem dX4_tokenNumber_0 : decode cX4_tokenNumber 0 = .ok (.aload_n 0, 1) := by decide +kernel
theorem dX4_tokenNumber_1 : decode cX4_tokenNumber 1 = .ok (.getfield 23, 3) := by decide +kernel
theorem dX4_tokenNumber_4 : decode cX4_tokenNumber 4 = .ok (.ireturn, 1) := by decide +kernel
theorem dX4_goOn_0 : decode cX4_goOn 0 = .ok (.aload_n 0, 1) := by decide +kernel
theorem dX4_goOn_1 : decode cX4_goOn 1 = .ok (.aload_n 0, 1) := by decide +kernel
theorem dX4_goOn_2 : decode cX4_goOn 2 = .ok (.getfield 17, 3) := by decide +kernel
theorem dX4_goOn_5 : decode cX4_goOn 5 = .ok (.putfield 20, 3) := by decide +kernel
theorem dX4_goOn_8 : decode cX4_goOn 8 = .ok (.aload_n 0, 1) := by decide +kernel
theorem dX4_goOn_9 : decode cX4_goOn 9 = .ok (.getfield 20, 3) := by decide +kernel
theorem dX4_goOn_12 : decode cX4_goOn 12 = .ok (.aload_n 0, 1) := by decide +kernel
theorem dX4_goOn_13 : decode cX4_goOn 13 = .ok (.getfield 13, 3) := by decide +kernel
theorem dX4_goOn_16 : decode cX4_goOn 16 = .ok (.if_icmp .ge 29, 3) := by decide +kernel
theorem dX4_goOn_19 : decode cX4_goOn 19 = .ok (.aload_n 0, 1) := by decide +kernel
theorem dX4_goOn_20 : decode cX4_goOn 20 = .ok (.aload_n 0, 1) := by decide +kernel
theorem dX4_goOn_21 : decode cX4_goOn 21 = .ok (.getfield 20, 3) := by decide +kernel
theorem dX4_goOn_24 : decode cX4_goOn 24 = .ok (.invokevirtual 26, 3) := by decide +kernel
theorem dX4_goOn_27 : decode cX4_goOn 27 = .ok (.bipush 32, 2) := by decide +kernel
theorem dX4_goOn_29 : decode cX4_goOn 29 = .ok (.if_icmp .ne 16, 3) := by decide +kernel
theorem dX4_goOn_32 : decode cX4_goOn 32 = .ok (.aload_n 0, 1) := by decide +kernel
theorem dX4_goOn_33 : decode cX4_goOn 33 = .ok (.dup, 1) := by decide +kernel
theorem dX4_goOn_34 : decode cX4_goOn 34 = .ok (.getfield 20, 3) := by decide +kernel
theorem dX4_goOn_37 : decode cX4_goOn 37 = .ok (.iconst 1, 1) := by decide +kernel
theorem dX4_goOn_38 : decode cX4_goOn 38 = .ok (.iadd, 1) := by decide +kernel
theorem dX4_goOn_39 : decode cX4_goOn 39 = .ok (.putfield 20, 3) := by decide +kernel
theorem dX4_goOn_42 : decode cX4_goOn 42 = .ok (.goto (-34), 3) := by decide +kernel
theorem dX4_goOn_45 : decode cX4_goOn 45 = .ok (.aload_n 0, 1) := by decide +kernel
theorem dX4_goOn_46 : decode cX4_goOn 46 = .ok (.aload_n 0, 1) := by decide +kernel
theorem dX4_goOn_47 : decode cX4_goOn 47 = .ok (.getfield 20, 3) := by decide +kernel
theorem dX4_goOn_50 : decode cX4_goOn 50 = .ok (.putfield 17, 3) := by decide +kernel
theorem dX4_goOn_53 : decode cX4_goOn 53 = .ok (.aload_n 0, 1) := by decide +kernel
theorem dX4_goOn_54 : decode cX4_goOn 54 = .ok (.getfield 20, 3) := by decide +kernel
theorem dX4_goOn_57 : decode cX4_goOn 57 = .ok (.aload_n 0, 1) := by decide +kernel
theorem dX4_goOn_58 : decode cX4_goOn 58 = .ok (.getfield 13, 3) := by decide +kernel
theorem dX4_goOn_61 : decode cX4_goOn 61 = .ok (.if_icmp .lt 11, 3) := by decide +kernel
theorem dX4_goOn_64 : decode cX4_goOn 64 = .ok (.aload_n 0, 1) := by decide +kernel
theorem dX4_goOn_65 : decode cX4_goOn 65 = .ok (.iconst (-1), 1) := by decide +kernel
theorem dX4_goOn_66 : decode cX4_goOn 66 = .ok (.putfield 30, 3) := by decide +kernel
theorem dX4_goOn_69 : decode cX4_goOn 69 = .ok (.goto 43, 3) := by decide +kernel
theorem dX4_goOn_72 : decode cX4_goOn 72 = .ok (.aload_n 0, 1) := by decide +kernel
theorem dX4_goOn_73 : decode cX4_goOn 73 = .ok (.aload_n 0, 1) := by decide +kernel
theorem dX4_goOn_74 : decode cX4_goOn 74 = .ok (.getfield 20, 3) := by decide +kernel
theorem dX4_goOn_77 : decode cX4_goOn 77 = .ok (.invokevirtual 33, 3) := by decide +kernel
theorem dX4_goOn_80 : decode cX4_goOn 80 = .ok (.ifCond .eq 10, 3) := by decide +kernel
theorem dX4_goOn_83 : decode cX4_goOn 83 = .ok (.aload_n 0, 1) := by decide +kernel
theorem dX4_goOn_84 : decode cX4_goOn 84 = .ok (.invokevirtual 37, 3) := by decide +kernel
theorem dX4_goOn_87 : decode cX4_goOn 87 = .ok (.goto 25, 3) := by decide +kernel
theorem dX4_goOn_90 : decode cX4_goOn 90 = .ok (.aload_n 0, 1) := by decide +kernel
theorem dX4_goOn_91 : decode cX4_goOn 91 = .ok (.aload_n 0, 1) := by decide +kernel
theorem dX4_goOn_92 : decode cX4_goOn 92 = .ok (.aload_n 0, 1) := by decide +kernel
theorem dX4_goOn_93 : decode cX4_goOn 93 = .ok (.getfield 20, 3) := by decide +kernel
theorem dX4_goOn_96 : decode cX4_goOn 96 = .ok (.invokevirtual 26, 3) := by decide +kernel
theorem dX4_goOn_99 : decode cX4_goOn 99 = .ok (.putfield 30, 3) := by decide +kernel
theorem dX4_goOn_102 : decode cX4_goOn 102 = .ok (.aload_n 0, 1) := by decide +kernel
theorem dX4_goOn_103 : decode cX4_goOn 103 = .ok (.dup, 1) := by decide +kernel
theorem dX4_goOn_104 : decode cX4_goOn 104 = .ok (.getfield 17, 3) := by decide +kernel
theorem dX4_goOn_107 : decode cX4_goOn 107 = .ok (.iconst 1, 1) := by decide +kernel
theorem dX4_goOn_108 : decode cX4_goOn 108 = .ok (.iadd, 1) := by decide +kernel
theorem dX4_goOn_109 : decode cX4_goOn 109 = .ok (.putfield 17, 3) := by decide +kernel
theorem dX4_goOn_112 : decode cX4_goOn 112 = .ok (.aload_n 0, 1) := by decide +kernel
theorem dX4_goOn_113 : decode cX4_goOn 113 = .ok (.getfield 30, 3) := by decide +kernel
theorem dX4_goOn_116 : decode cX4_goOn 116 = .ok (.ireturn, 1) := by decide +kernel
theorem dX4_readNumber_0 : decode cX4_readNumber 0 = .ok (.aload_n 0, 1) := by decide +kernel
theorem dX4_readNumber_1 : decode cX4_readNumber 1 = .ok (.iconst 0, 1) := by decide +kernel
theorem dX4_readNumber_2 : decode cX4_readNumber 2 = .ok (.putfield 23, 3) := by decide +kernel
theorem dX4_readNumber_5 : decode cX4_readNumber 5 = .ok (.aload_n 0, 1) := by decide +kernel
theorem dX4_readNumber_6 : decode cX4_readNumber 6 = .ok (.getfield 17, 3) := by decide +kernel
theorem dX4_readNumber_9 : decode cX4_readNumber 9 = .ok (.aload_n 0, 1) := by decide +kernel
theorem dX4_readNumber_10 : decode cX4_readNumber 10 = .ok (.getfield 13, 3) := by decide +kernel
theorem dX4_readNumber_13 : decode cX4_readNumber 13 = .ok (.if_icmp .ge 55, 3) := by decide +kernel
theorem dX4_readNumber_16 : decode cX4_readNumber 16 = .ok (.aload_n 0, 1) := by decide +kernel
theorem dX4_readNumber_17 : decode cX4_readNumber 17 = .ok (.aload_n 0, 1) := by decide +kernel
theorem dX4_readNumber_18 : decode cX4_readNumber 18 = .ok (.getfield 17, 3) := by decide +kernel
theorem dX4_readNumber_21 : decode cX4_readNumber 21 = .ok (.invokevirtual 33, 3) := by decide +kernel
theorem dX4_readNumber_24 : decode cX4_readNumber 24 = .ok (.ifCond .eq 44, 3) := by decide +kernel
theorem dX4_readNumber_27 : decode cX4_readNumber 27 = .ok (.aload_n 0, 1) := by decide +kernel
theorem dX4_readNumber_28 : decode cX4_readNumber 28 = .ok (.bipush 100, 2) := by decide +kernel
theorem dX4_readNumber_30 : decode cX4_readNumber 30 = .ok (.aload_n 0, 1) := by decide +kernel
theorem dX4_readNumber_31 : decode cX4_readNumber 31 = .ok (.getfield 23, 3) := by decide +kernel
theorem dX4_readNumber_34 : decode cX4_readNumber 34 = .ok (.bipush 10, 2) := by decide +kernel
theorem dX4_readNumber_36 : decode cX4_readNumber 36 = .ok (.imul, 1) := by decide +kernel
theorem dX4_readNumber_37 : decode cX4_readNumber 37 = .ok (.aload_n 0, 1) := by decide +kernel
theorem dX4_readNumber_38 : decode cX4_readNumber 38 = .ok (.aload_n 0, 1) := by decide +kernel
theorem dX4_readNumber_39 : decode cX4_readNumber 39 = .ok (.getfield 17, 3) := by decide +kernel
theorem dX4_readNumber_42 : decode cX4_readNumber 42 = .ok (.invokevirtual 26, 3) := by decide +kernel
theorem dX4_readNumber_45 : decode cX4_readNumber 45 = .ok (.iadd, 1) := by decide +kernel
theorem dX4_readNumber_46 : decode cX4_readNumber 46 = .ok (.bipush 48, 2) := by decide +kernel
theorem dX4_readNumber_48 : decode cX4_readNumber 48 = .ok (.isub, 1) := by decide +kernel
theorem dX4_readNumber_49 : decode cX4_readNumber 49 = .ok (.invokestatic 40, 3) := by decide +kernel
theorem dX4_readNumber_52 : decode cX4_readNumber 52 = .ok (.putfield 23, 3) := by decide +kernel
theorem dX4_readNumber_55 : decode cX4_readNumber 55 = .ok (.aload_n 0, 1) := by decide +kernel
theorem dX4_readNumber_56 : decode cX4_readNumber 56 = .ok (.dup, 1) := by decide +kernel
theorem dX4_readNumber_57 : decode cX4_readNumber 57 = .ok (.getfield 17, 3) := by decide +kernel
theorem dX4_readNumber_60 : decode cX4_readNumber 60 = .ok (.iconst 1, 1) := by decide +kernel
theorem dX4_readNumber_61 : decode cX4_readNumber 61 = .ok (.iadd, 1) := by decide +kernel
theorem dX4_readNumber_62 : decode cX4_readNumber 62 = .ok (.putfield 17, 3) := by decide +kernel
theorem dX4_readNumber_65 : decode cX4_readNumber 65 = .ok (.goto (-60), 3) := by decide +kernel
theorem dX4_readNumber_68 : decode cX4_readNumber 68 = .ok (.aload_n 0, 1) := by decide +kernel
theorem dX4_readNumber_69 : decode cX4_readNumber 69 = .ok (.aload_n 0, 1) := by decide +kernel
theorem dX4_readNumber_70 : decode cX4_readNumber 70 = .ok (.getfield 20, 3) := by decide +kernel
theorem dX4_readNumber_73 : decode cX4_readNumber 73 = .ok (.invokevirtual 26, 3) := by decide +kernel
theorem dX4_readNumber_76 : decode cX4_readNumber 76 = .ok (.bipush 48, 2) := by decide +kernel
theorem dX4_readNumber_78 : decode cX4_readNumber 78 = .ok (.if_icmp .ne 20, 3) := by decide +kernel
theorem dX4_readNumber_81 : decode cX4_readNumber 81 = .ok (.aload_n 0, 1) := by decide +kernel
theorem dX4_readNumber_82 : decode cX4_readNumber 82 = .ok (.getfield 17, 3) := by decide +kernel
theorem dX4_readNumber_85 : decode cX4_readNumber 85 = .ok (.aload_n 0, 1) := by decide +kernel
theorem dX4_readNumber_86 : decode cX4_readNumber 86 = .ok (.getfield 20, 3) := by decide +kernel
theorem dX4_readNumber_89 : decode cX4_readNumber 89 = .ok (.isub, 1) := by decide +kernel
theorem dX4_readNumber_90 : decode cX4_readNumber 90 = .ok (.iconst 1, 1) := by decide +kernel
theorem dX4_readNumber_91 : decode cX4_readNumber 91 = .ok (.if_icmp .le 7, 3) := by decide +kernel
theorem dX4_readNumber_94 : decode cX4_readNumber 94 = .ok (.iconst 1, 1) := by decide +kernel
theorem dX4_readNumber_95 : decode cX4_readNumber 95 = .ok (.goto 4, 3) := by decide +kernel
theorem dX4_readNumber_98 : decode cX4_readNumber 98 = .ok (.iconst 0, 1) := by decide +kernel
theorem dX4_readNumber_99 : decode cX4_readNumber 99 = .ok (.istore_n 1, 1) := by decide +kernel
theorem dX4_readNumber_100 : decode cX4_readNumber 100 = .ok (.aload_n 0, 1) := by decide +kernel
theorem dX4_readNumber_101 : decode cX4_readNumber 101 = .ok (.iload_n 1, 1) := by decide +kernel
theorem dX4_readNumber_102 : decode cX4_readNumber 102 = .ok (.ifCond .ne 12, 3) := by decide +kernel
theorem dX4_readNumber_105 : decode cX4_readNumber 105 = .ok (.aload_n 0, 1) := by decide +kernel
theorem dX4_readNumber_106 : decode cX4_readNumber 106 = .ok (.getfield 23, 3) := by decide +kernel
theorem dX4_readNumber_109 : decode cX4_readNumber 109 = .ok (.bipush 99, 2) := by decide +kernel
theorem dX4_readNumber_111 : decode cX4_readNumber 111 = .ok (.if_icmp .le 8, 3) := by decide +kernel
theorem dX4_readNumber_114 : decode cX4_readNumber 114 = .ok (.bipush (-3), 2) := by decide +kernel
theorem dX4_readNumber_116 : decode cX4_readNumber 116 = .ok (.goto 5, 3) := by decide +kernel
theorem dX4_readNumber_119 : decode cX4_readNumber 119 = .ok (.bipush (-2), 2) := by decide +kernel
theorem dX4_readNumber_121 : decode cX4_readNumber 121 = .ok (.putfield 30, 3) := by decide +kernel
theorem dX4_readNumber_124 : decode cX4_readNumber 124 = .ok (.return_, 1) := by decide +kernel
theorem dX4_isDigit_0 : decode cX4_isDigit 0 = .ok (.aload_n 0, 1) := by decide +kernel
theorem dX4_isDigit_1 : decode cX4_isDigit 1 = .ok (.iload_n 1, 1) := by decide +kernel
theorem dX4_isDigit_2 : decode cX4_isDigit 2 = .ok (.invokevirtual 26, 3) := by decide +kernel
theorem dX4_isDigit_5 : decode cX4_isDigit 5 = .ok (.istore_n 2, 1) := by decide +kernel
theorem dX4_isDigit_6 : decode cX4_isDigit 6 = .ok (.iload_n 2, 1) := by decide +kernel
theorem dX4_isDigit_7 : decode cX4_isDigit 7 = .ok (.bipush 48, 2) := by decide +kernel
theorem dX4_isDigit_9 : decode cX4_isDigit 9 = .ok (.if_icmp .lt 13, 3) := by decide +kernel
theorem dX4_isDigit_12 : decode cX4_isDigit 12 = .ok (.iload_n 2, 1) := by decide +kernel
theorem dX4_isDigit_13 : decode cX4_isDigit 13 = .ok (.bipush 57, 2) := by decide +kernel
theorem dX4_isDigit_15 : decode cX4_isDigit 15 = .ok (.if_icmp .gt 7, 3) := by decide +kernel
theorem dX4_isDigit_18 : decode cX4_isDigit 18 = .ok (.iconst 1, 1) := by decide +kernel
theorem dX4_isDigit_19 : decode cX4_isDigit 19 = .ok (.goto 4, 3) := by decide +kernel
theorem dX4_isDigit_22 : decode cX4_isDigit 22 = .ok (.iconst 0, 1) := by decide +kernel
theorem dX4_isDigit_23 : decode cX4_isDigit 23 = .ok (.ireturn, 1) := by decide +kernel
theorem dX4_letterAt_0 : decode cX4_letterAt 0 = .ok (.iload_n 1, 1) := by decide +kernel
theorem dX4_letterAt_1 : decode cX4_letterAt 1 = .ok (.ifCond .lt 10, 3) := by decide +kernel
theorem dX4_letterAt_4 : decode cX4_letterAt 4 = .ok (.iload_n 1, 1) := by decide +kernel
theorem dX4_letterAt_5 : decode cX4_letterAt 5 = .ok (.sipush 200, 3) := by decide +kernel
theorem dX4_letterAt_8 : decode cX4_letterAt 8 = .ok (.if_icmp .lt 8, 3) := by decide +kernel
theorem dX4_letterAt_11 : decode cX4_letterAt 11 = .ok (.bipush 32, 2) := by decide +kernel
theorem dX4_letterAt_13 : decode cX4_letterAt 13 = .ok (.goto 9, 3) := by decide +kernel
theorem dX4_letterAt_16 : decode cX4_letterAt 16 = .ok (.aload_n 0, 1) := by decide +kernel
theorem dX4_letterAt_17 : decode cX4_letterAt 17 = .ok (.getfield 9, 3) := by decide +kernel
theorem dX4_letterAt_20 : decode cX4_letterAt 20 = .ok (.iload_n 1, 1) := by decide +kernel
theorem dX4_letterAt_21 : decode cX4_letterAt 21 = .ok (.caload, 1) := by decide +kernel
theorem dX4_letterAt_22 : decode cX4_letterAt 22 = .ok (.ireturn, 1) := by decide +kernel
theorem dX5_init_0 : decode cX5_init 0 = .ok (.aload_n 0, 1) := by decide +kernel
theorem dX5_init_1 : decode cX5_init 1 = .ok (.invokespecial 1, 3) := by decide +kernel
theorem dX5_init_4 : decode cX5_init 4 = .ok (.aload_n 0, 1) := by decide +kernel
theorem dX5_init_5 : decode cX5_init 5 = .ok (.bipush 6, 2) := by decide +kernel
theorem dX5_init_7 : decode cX5_init 7 = .ok (.newarray .int, 2) := by decide +kernel
theorem dX5_init_9 : decode cX5_init 9 = .ok (.putfield 9, 3) := by decide +kernel
theorem dX5_init_12 : decode cX5_init 12 = .ok (.aload_n 0, 1) := by decide +kernel
theorem dX5_init_13 : decode cX5_init 13 = .ok (.bipush 54, 2) := by decide +kernel
theorem dX5_init_15 : decode cX5_init 15 = .ok (.newarray .int, 2) := by decide +kernel
theorem dX5_init_17 : decode cX5_init 17 = .ok (.putfield 13, 3) := by decide +kernel
theorem dX5_init_20 : decode cX5_init 20 = .ok (.aload_n 0, 1) := by decide +kernel
theorem dX5_init_21 : decode cX5_init 21 = .ok (.invokevirtual 16, 3) := by decide +kernel
theorem dX5_init_24 : decode cX5_init 24 = .ok (.return_, 1) := by decide +kernel
theorem dX5_parts_0 : decode cX5_parts 0 = .ok (.aload_n 0, 1) := by decide +kernel
theorem dX5_parts_1 : decode cX5_parts 1 = .ok (.getfield 9, 3) := by decide +kernel
theorem dX5_parts_4 : decode cX5_parts 4 = .ok (.iconst 0, 1) := by decide +kernel
theorem dX5_parts_5 : decode cX5_parts 5 = .ok (.iaload, 1) := by decide +kernel
theorem dX5_parts_6 : decode cX5_parts 6 = .ok (.ireturn, 1) := by decide +kernel
theorem dX5_orders_0 : decode cX5_orders 0 = .ok (.aload_n 0, 1) := by decide +kernel
theorem dX5_orders_1 : decode cX5_orders 1 = .ok (.getfield 9, 3) := by decide +kernel
theorem dX5_orders_4 : decode cX5_orders 4 = .ok (.iconst 1, 1) := by decide +kernel
theorem dX5_orders_5 : decode cX5_orders 5 = .ok (.iaload, 1) := by decide +kernel
theorem dX5_orders_6 : decode cX5_orders 6 = .ok (.ireturn, 1) := by decide +kernel
theorem dX5_ripe_0 : decode cX5_ripe 0 = .ok (.aload_n 0, 1) := by decide +kernel
theorem dX5_ripe_1 : decode cX5_ripe 1 = .ok (.iconst 5, 1) := by decide +kernel
theorem dX5_ripe_2 : decode cX5_ripe 2 = .ok (.iconst 0, 1) := by decide +kernel
theorem dX5_ripe_3 : decode cX5_ripe 3 = .ok (.invokevirtual 19, 3) := by decide +kernel
theorem dX5_ripe_6 : decode cX5_ripe 6 = .ok (.ireturn, 1) := by decide +kernel
theorem dX5_twigs_0 : decode cX5_twigs 0 = .ok (.aload_n 0, 1) := by decide +kernel
theorem dX5_twigs_1 : decode cX5_twigs 1 = .ok (.bipush 6, 2) := by decide +kernel
theorem dX5_twigs_3 : decode cX5_twigs 3 = .ok (.iconst 0, 1) := by decide +kernel
theorem dX5_twigs_4 : decode cX5_twigs 4 = .ok (.invokevirtual 19, 3) := by decide +kernel
theorem dX5_twigs_7 : decode cX5_twigs 7 = .ok (.ireturn, 1) := by decide +kernel
theorem dX5_pace_0 : decode cX5_pace 0 = .ok (.aload_n 0, 1) := by decide +kernel
theorem dX5_pace_1 : decode cX5_pace 1 = .ok (.bipush 7, 2) := by decide +kernel
theorem dX5_pace_3 : decode cX5_pace 3 = .ok (.iconst 0, 1) := by decide +kernel
theorem dX5_pace_4 : decode cX5_pace 4 = .ok (.invokevirtual 19, 3) := by decide +kernel
theorem dX5_pace_7 : decode cX5_pace 7 = .ok (.ireturn, 1) := by decide +kernel
theorem dX5_lengthAtFirst_0 : decode cX5_lengthAtFirst 0 = .ok (.aload_n 0, 1) := by decide +kernel
theorem dX5_lengthAtFirst_1 : decode cX5_lengthAtFirst 1 = .ok (.bipush 8, 2) := by decide +kernel
theorem dX5_lengthAtFirst_3 : decode cX5_lengthAtFirst 3 = .ok (.iconst 0, 1) := by decide +kernel
theorem dX5_lengthAtFirst_4 : decode cX5_lengthAtFirst 4 = .ok (.invokevirtual 19, 3) := by decide +kernel
theorem dX5_lengthAtFirst_7 : decode cX5_lengthAtFirst 7 = .ok (.ireturn, 1) := by decide +kernel
theorem dX5_value_0 : decode cX5_value 0 = .ok (.iload_n 1, 1) := by decide +kernel
theorem dX5_value_1 : decode cX5_value 1 = .ok (.iload_n 2, 1) := by decide +kernel
theorem dX5_value_2 : decode cX5_value 2 = .ok (.invokestatic 23, 3) := by decide +kernel
theorem dX5_value_5 : decode cX5_value 5 = .ok (.ifCond .eq 17, 3) := by decide +kernel
theorem dX5_value_8 : decode cX5_value 8 = .ok (.aload_n 0, 1) := by decide +kernel
theorem dX5_value_9 : decode cX5_value 9 = .ok (.getfield 13, 3) := by decide +kernel
theorem dX5_value_12 : decode cX5_value 12 = .ok (.iload_n 1, 1) := by decide +kernel
theorem dX5_value_13 : decode cX5_value 13 = .ok (.bipush 6, 2) := by decide +kernel
theorem dX5_value_15 : decode cX5_value 15 = .ok (.imul, 1) := by decide +kernel
theorem dX5_value_16 : decode cX5_value 16 = .ok (.iload_n 2, 1) := by decide +kernel
theorem dX5_value_17 : decode cX5_value 17 = .ok (.iadd, 1) := by decide +kernel
theorem dX5_value_18 : decode cX5_value 18 = .ok (.iaload, 1) := by decide +kernel
theorem dX5_value_19 : decode cX5_value 19 = .ok (.goto 4, 3) := by decide +kernel
theorem dX5_value_22 : decode cX5_value 22 = .ok (.iconst 0, 1) := by decide +kernel
theorem dX5_value_23 : decode cX5_value 23 = .ok (.ireturn, 1) := by decide +kernel
theorem dX5_readFrom_0 : decode cX5_readFrom 0 = .ok (.aload_n 0, 1) := by decide +kernel
theorem dX5_readFrom_1 : decode cX5_readFrom 1 = .ok (.invokevirtual 16, 3) := by decide +kernel
theorem dX5_readFrom_4 : decode cX5_readFrom 4 = .ok (.aload_n 1, 1) := by decide +kernel
theorem dX5_readFrom_5 : decode cX5_readFrom 5 = .ok (.invokevirtual 27, 3) := by decide +kernel
theorem dX5_readFrom_8 : decode cX5_readFrom 8 = .ok (.iconst 0, 1) := by decide +kernel
theorem dX5_readFrom_9 : decode cX5_readFrom 9 = .ok (.istore_n 2, 1) := by decide +kernel
theorem dX5_readFrom_10 : decode cX5_readFrom 10 = .ok (.iload_n 2, 1) := by decide +kernel
theorem dX5_readFrom_11 : decode cX5_readFrom 11 = .ok (.sipush 200, 3) := by decide +kernel
theorem dX5_readFrom_14 : decode cX5_readFrom 14 = .ok (.if_icmp .gt 33, 3) := by decide +kernel
theorem dX5_readFrom_17 : decode cX5_readFrom 17 = .ok (.aload_n 1, 1) := by decide +kernel
theorem dX5_readFrom_18 : decode cX5_readFrom 18 = .ok (.invokevirtual 32, 3) := by decide +kernel
theorem dX5_readFrom_21 : decode cX5_readFrom 21 = .ok (.istore_n 3, 1) := by decide +kernel
theorem dX5_readFrom_22 : decode cX5_readFrom 22 = .ok (.iload_n 3, 1) := by decide +kernel
theorem dX5_readFrom_23 : decode cX5_readFrom 23 = .ok (.iconst (-1), 1) := by decide +kernel
theorem dX5_readFrom_24 : decode cX5_readFrom 24 = .ok (.if_icmp .ne 5, 3) := by decide +kernel
theorem dX5_readFrom_27 : decode cX5_readFrom 27 = .ok (.iload_n 2, 1) := by decide +kernel
theorem dX5_readFrom_28 : decode cX5_readFrom 28 = .ok (.ireturn, 1) := by decide +kernel
theorem dX5_readFrom_29 : decode cX5_readFrom 29 = .ok (.aload_n 0, 1) := by decide +kernel
theorem dX5_readFrom_30 : decode cX5_readFrom 30 = .ok (.aload_n 1, 1) := by decide +kernel
theorem dX5_readFrom_31 : decode cX5_readFrom 31 = .ok (.iload_n 3, 1) := by decide +kernel
theorem dX5_readFrom_32 : decode cX5_readFrom 32 = .ok (.invokevirtual 36, 3) := by decide +kernel
theorem dX5_readFrom_35 : decode cX5_readFrom 35 = .ok (.ifCond .ne 6, 3) := by decide +kernel
theorem dX5_readFrom_38 : decode cX5_readFrom 38 = .ok (.goto 9, 3) := by decide +kernel
theorem dX5_readFrom_41 : decode cX5_readFrom 41 = .ok (.iinc 2 1, 3) := by decide +kernel
theorem dX5_readFrom_44 : decode cX5_readFrom 44 = .ok (.goto (-34), 3) := by decide +kernel
theorem dX5_readFrom_47 : decode cX5_readFrom 47 = .ok (.bipush (-10), 2) := by decide +kernel
theorem dX5_readFrom_49 : decode cX5_readFrom 49 = .ok (.aload_n 1, 1) := by decide +kernel
theorem dX5_readFrom_50 : decode cX5_readFrom 50 = .ok (.invokevirtual 40, 3) := by decide +kernel
theorem dX5_readFrom_53 : decode cX5_readFrom 53 = .ok (.isub, 1) := by decide +kernel
theorem dX5_readFrom_54 : decode cX5_readFrom 54 = .ok (.ireturn, 1) := by decide +kernel
theorem dX5_readItem_0 : decode cX5_readItem 0 = .ok (.iload_n 2, 1) := by decide +kernel
theorem dX5_readItem_1 : decode cX5_readItem 1 = .ok (.ifCond .ge 7, 3) := by decide +kernel
theorem dX5_readItem_4 : decode cX5_readItem 4 = .ok (.iconst (-1), 1) := by decide +kernel
theorem dX5_readItem_5 : decode cX5_readItem 5 = .ok (.goto 10, 3) := by decide +kernel
theorem dX5_readItem_8 : decode cX5_readItem 8 = .ok (.ldc 43, 2) := by decide +kernel
theorem dX5_readItem_10 : decode cX5_readItem 10 = .ok (.iload_n 2, 1) := by decide +kernel
theorem dX5_readItem_11 : decode cX5_readItem 11 = .ok (.i2c, 1) := by decide +kernel
theorem dX5_readItem_12 : decode cX5_readItem 12 = .ok (.invokevirtual 45, 3) := by decide +kernel
theorem dX5_readItem_15 : decode cX5_readItem 15 = .ok (.istore_n 3, 1) := by decide +kernel
theorem dX5_readItem_16 : decode cX5_readItem 16 = .ok (.iload_n 3, 1) := by decide +kernel
theorem dX5_readItem_17 : decode cX5_readItem 17 = .ok (.ifCond .lt 23, 3) := by decide +kernel
theorem dX5_readItem_20 : decode cX5_readItem 20 = .ok (.iload_n 3, 1) := by decide +kernel
theorem dX5_readItem_21 : decode cX5_readItem 21 = .ok (.bipush 6, 2) := by decide +kernel
theorem dX5_readItem_23 : decode cX5_readItem 23 = .ok (.if_icmp .ge 17, 3) := by decide +kernel
theorem dX5_readItem_26 : decode cX5_readItem 26 = .ok (.aload_n 0, 1) := by decide +kernel
theorem dX5_readItem_27 : decode cX5_readItem 27 = .ok (.getfield 9, 3) := by decide +kernel
theorem dX5_readItem_30 : decode cX5_readItem 30 = .ok (.iload_n 3, 1) := by decide +kernel
theorem dX5_readItem_31 : decode cX5_readItem 31 = .ok (.iaload, 1) := by decide +kernel
theorem dX5_readItem_32 : decode cX5_readItem 32 = .ok (.getstatic 51, 3) := by decide +kernel
theorem dX5_readItem_35 : decode cX5_readItem 35 = .ok (.iload_n 3, 1) := by decide +kernel
theorem dX5_readItem_36 : decode cX5_readItem 36 = .ok (.iaload, 1) := by decide +kernel
theorem dX5_readItem_37 : decode cX5_readItem 37 = .ok (.if_icmp .lt 5, 3) := by decide +kernel
theorem dX5_readItem_40 : decode cX5_readItem 40 = .ok (.iconst 0, 1) := by decide +kernel
theorem dX5_readItem_41 : decode cX5_readItem 41 = .ok (.ireturn, 1) := by decide +kernel
theorem dX5_readItem_42 : decode cX5_readItem 42 = .ok (.aload_n 0, 1) := by decide +kernel
theorem dX5_readItem_43 : decode cX5_readItem 43 = .ok (.getfield 9, 3) := by decide +kernel
theorem dX5_readItem_46 : decode cX5_readItem 46 = .ok (.iload_n 3, 1) := by decide +kernel
theorem dX5_readItem_47 : decode cX5_readItem 47 = .ok (.iaload, 1) := by decide +kernel
theorem dX5_readItem_48 : decode cX5_readItem 48 = .ok (.istore 4, 2) := by decide +kernel
theorem dX5_readItem_50 : decode cX5_readItem 50 = .ok (.iconst 0, 1) := by decide +kernel
theorem dX5_readItem_51 : decode cX5_readItem 51 = .ok (.istore 5, 2) := by decide +kernel
theorem dX5_readItem_53 : decode cX5_readItem 53 = .ok (.iload 5, 2) := by decide +kernel
theorem dX5_readItem_55 : decode cX5_readItem 55 = .ok (.getstatic 54, 3) := by decide +kernel
theorem dX5_readItem_58 : decode cX5_readItem 58 = .ok (.iload_n 3, 1) := by decide +kernel
theorem dX5_readItem_59 : decode cX5_readItem 59 = .ok (.iaload, 1) := by decide +kernel
theorem dX5_readItem_60 : decode cX5_readItem 60 = .ok (.if_icmp .ge 41, 3) := by decide +kernel
theorem dX5_readItem_63 : decode cX5_readItem 63 = .ok (.aload_n 1, 1) := by decide +kernel
theorem dX5_readItem_64 : decode cX5_readItem 64 = .ok (.invokevirtual 32, 3) := by decide +kernel
theorem dX5_readItem_67 : decode cX5_readItem 67 = .ok (.bipush (-2), 2) := by decide +kernel
theorem dX5_readItem_69 : decode cX5_readItem 69 = .ok (.if_icmp .ne 24, 3) := by decide +kernel
theorem dX5_readItem_72 : decode cX5_readItem 72 = .ok (.aload_n 0, 1) := by decide +kernel
theorem dX5_readItem_73 : decode cX5_readItem 73 = .ok (.getstatic 57, 3) := by decide +kernel
theorem dX5_readItem_76 : decode cX5_readItem 76 = .ok (.iload_n 3, 1) := by decide +kernel
theorem dX5_readItem_77 : decode cX5_readItem 77 = .ok (.iaload, 1) := by decide +kernel
theorem dX5_readItem_78 : decode cX5_readItem 78 = .ok (.iload 5, 2) := by decide +kernel
theorem dX5_readItem_80 : decode cX5_readItem 80 = .ok (.iadd, 1) := by decide +kernel
theorem dX5_readItem_81 : decode cX5_readItem 81 = .ok (.iload 4, 2) := by decide +kernel
theorem dX5_readItem_83 : decode cX5_readItem 83 = .ok (.aload_n 1, 1) := by decide +kernel
theorem dX5_readItem_84 : decode cX5_readItem 84 = .ok (.invokevirtual 60, 3) := by decide +kernel
theorem dX5_readItem_87 : decode cX5_readItem 87 = .ok (.invokevirtual 63, 3) := by decide +kernel
theorem dX5_readItem_90 : decode cX5_readItem 90 = .ok (.ifCond .ne 5, 3) := by decide +kernel
theorem dX5_readItem_93 : decode cX5_readItem 93 = .ok (.iconst 0, 1) := by decide +kernel
theorem dX5_readItem_94 : decode cX5_readItem 94 = .ok (.ireturn, 1) := by decide +kernel
theorem dX5_readItem_95 : decode cX5_readItem 95 = .ok (.iinc 5 1, 3) := by decide +kernel
theorem dX5_readItem_98 : decode cX5_readItem 98 = .ok (.goto (-45), 3) := by decide +kernel
theorem dX5_readItem_101 : decode cX5_readItem 101 = .ok (.aload_n 0, 1) := by decide +kernel
theorem dX5_readItem_102 : decode cX5_readItem 102 = .ok (.getfield 9, 3) := by decide +kernel
theorem dX5_readItem_105 : decode cX5_readItem 105 = .ok (.iload_n 3, 1) := by decide +kernel
theorem dX5_readItem_106 : decode cX5_readItem 106 = .ok (.dup2, 1) := by decide +kernel
theorem dX5_readItem_107 : decode cX5_readItem 107 = .ok (.iaload, 1) := by decide +kernel
theorem dX5_readItem_108 : decode cX5_readItem 108 = .ok (.iconst 1, 1) := by decide +kernel
theorem dX5_readItem_109 : decode cX5_readItem 109 = .ok (.iadd, 1) := by decide +kernel
theorem dX5_readItem_110 : decode cX5_readItem 110 = .ok (.iastore, 1) := by decide +kernel
theorem dX5_readItem_111 : decode cX5_readItem 111 = .ok (.aload_n 1, 1) := by decide +kernel
theorem dX5_readItem_112 : decode cX5_readItem 112 = .ok (.invokevirtual 32, 3) := by decide +kernel
theorem dX5_readItem_115 : decode cX5_readItem 115 = .ok (.bipush 59, 2) := by decide +kernel
theorem dX5_readItem_117 : decode cX5_readItem 117 = .ok (.if_icmp .ne 7, 3) := by decide +kernel
theorem dX5_readItem_120 : decode cX5_readItem 120 = .ok (.iconst 1, 1) := by decide +kernel
theorem dX5_readItem_121 : decode cX5_readItem 121 = .ok (.goto 4, 3) := by decide +kernel
theorem dX5_readItem_124 : decode cX5_readItem 124 = .ok (.iconst 0, 1) := by decide +kernel
theorem dX5_readItem_125 : decode cX5_readItem 125 = .ok (.ireturn, 1) := by decide +kernel
theorem dX5_take_0 : decode cX5_take 0 = .ok (.iload_n 1, 1) := by decide +kernel
theorem dX5_take_1 : decode cX5_take 1 = .ok (.iload_n 2, 1) := by decide +kernel
theorem dX5_take_2 : decode cX5_take 2 = .ok (.invokestatic 23, 3) := by decide +kernel
theorem dX5_take_5 : decode cX5_take 5 = .ok (.ifCond .eq 21, 3) := by decide +kernel
theorem dX5_take_8 : decode cX5_take 8 = .ok (.iload_n 3, 1) := by decide +kernel
theorem dX5_take_9 : decode cX5_take 9 = .ok (.getstatic 67, 3) := by decide +kernel
theorem dX5_take_12 : decode cX5_take 12 = .ok (.iload_n 1, 1) := by decide +kernel
theorem dX5_take_13 : decode cX5_take 13 = .ok (.iaload, 1) := by decide +kernel
theorem dX5_take_14 : decode cX5_take 14 = .ok (.if_icmp .lt 12, 3) := by decide +kernel
theorem dX5_take_17 : decode cX5_take 17 = .ok (.iload_n 3, 1) := by decide +kernel
theorem dX5_take_18 : decode cX5_take 18 = .ok (.getstatic 70, 3) := by decide +kernel
theorem dX5_take_21 : decode cX5_take 21 = .ok (.iload_n 1, 1) := by decide +kernel
theorem dX5_take_22 : decode cX5_take 22 = .ok (.iaload, 1) := by decide +kernel
theorem dX5_take_23 : decode cX5_take 23 = .ok (.if_icmp .le 5, 3) := by decide +kernel
theorem dX5_take_26 : decode cX5_take 26 = .ok (.iconst 0, 1) := by decide +kernel
theorem dX5_take_27 : decode cX5_take 27 = .ok (.ireturn, 1) := by decide +kernel
theorem dX5_take_28 : decode cX5_take 28 = .ok (.aload_n 0, 1) := by decide +kernel
theorem dX5_take_29 : decode cX5_take 29 = .ok (.getfield 13, 3) := by decide +kernel
theorem dX5_take_32 : decode cX5_take 32 = .ok (.iload_n 1, 1) := by decide +kernel
theorem dX5_take_33 : decode cX5_take 33 = .ok (.bipush 6, 2) := by decide +kernel
theorem dX5_take_35 : decode cX5_take 35 = .ok (.imul, 1) := by decide +kernel
theorem dX5_take_36 : decode cX5_take 36 = .ok (.iload_n 2, 1) := by decide +kernel
theorem dX5_take_37 : decode cX5_take 37 = .ok (.iadd, 1) := by decide +kernel
theorem dX5_take_38 : decode cX5_take 38 = .ok (.iload_n 3, 1) := by decide +kernel
theorem dX5_take_39 : decode cX5_take 39 = .ok (.iastore, 1) := by decide +kernel
theorem dX5_take_40 : decode cX5_take 40 = .ok (.iconst 1, 1) := by decide +kernel
theorem dX5_take_41 : decode cX5_take 41 = .ok (.ireturn, 1) := by decide +kernel
theorem dX5_isPlace_0 : decode cX5_isPlace 0 = .ok (.iload_n 0, 1) := by decide +kernel
theorem dX5_isPlace_1 : decode cX5_isPlace 1 = .ok (.ifCond .lt 23, 3) := by decide +kernel
theorem dX5_isPlace_4 : decode cX5_isPlace 4 = .ok (.iload_n 0, 1) := by decide +kernel
theorem dX5_isPlace_5 : decode cX5_isPlace 5 = .ok (.bipush 9, 2) := by decide +kernel
theorem dX5_isPlace_7 : decode cX5_isPlace 7 = .ok (.if_icmp .ge 17, 3) := by decide +kernel
theorem dX5_isPlace_10 : decode cX5_isPlace 10 = .ok (.iload_n 1, 1) := by decide +kernel
theorem dX5_isPlace_11 : decode cX5_isPlace 11 = .ok (.ifCond .lt 13, 3) := by decide +kernel
theorem dX5_isPlace_14 : decode cX5_isPlace 14 = .ok (.iload_n 1, 1) := by decide +kernel
theorem dX5_isPlace_15 : decode cX5_isPlace 15 = .ok (.bipush 6, 2) := by decide +kernel
theorem dX5_isPlace_17 : decode cX5_isPlace 17 = .ok (.if_icmp .ge 7, 3) := by decide +kernel
theorem dX5_isPlace_20 : decode cX5_isPlace 20 = .ok (.iconst 1, 1) := by decide +kernel
theorem dX5_isPlace_21 : decode cX5_isPlace 21 = .ok (.goto 4, 3) := by decide +kernel
theorem dX5_isPlace_24 : decode cX5_isPlace 24 = .ok (.iconst 0, 1) := by decide +kernel
theorem dX5_isPlace_25 : decode cX5_isPlace 25 = .ok (.ireturn, 1) := by decide +kernel
theorem dX5_setAsAtFirst_0 : decode cX5_setAsAtFirst 0 = .ok (.iconst 0, 1) := by decide +kernel
theorem dX5_setAsAtFirst_1 : decode cX5_setAsAtFirst 1 = .ok (.istore_n 1, 1) := by decide +kernel
theorem dX5_setAsAtFirst_2 : decode cX5_setAsAtFirst 2 = .ok (.iload_n 1, 1) := by decide +kernel
theorem dX5_setAsAtFirst_3 : decode cX5_setAsAtFirst 3 = .ok (.bipush 6, 2) := by decide +kernel
theorem dX5_setAsAtFirst_5 : decode cX5_setAsAtFirst 5 = .ok (.if_icmp .ge 16, 3) := by decide +kernel
theorem dX5_setAsAtFirst_8 : decode cX5_setAsAtFirst 8 = .ok (.aload_n 0, 1) := by decide +kernel
theorem dX5_setAsAtFirst_9 : decode cX5_setAsAtFirst 9 = .ok (.getfield 9, 3) := by decide +kernel
theorem dX5_setAsAtFirst_12 : decode cX5_setAsAtFirst 12 = .ok (.iload_n 1, 1) := by decide +kernel
theorem dX5_setAsAtFirst_13 : decode cX5_setAsAtFirst 13 = .ok (.iconst 0, 1) := by decide +kernel
theorem dX5_setAsAtFirst_14 : decode cX5_setAsAtFirst 14 = .ok (.iastore, 1) := by decide +kernel
theorem dX5_setAsAtFirst_15 : decode cX5_setAsAtFirst 15 = .ok (.iinc 1 1, 3) := by decide +kernel
theorem dX5_setAsAtFirst_18 : decode cX5_setAsAtFirst 18 = .ok (.goto (-16), 3) := by decide +kernel
theorem dX5_setAsAtFirst_21 : decode cX5_setAsAtFirst 21 = .ok (.iconst 0, 1) := by decide +kernel
theorem dX5_setAsAtFirst_22 : decode cX5_setAsAtFirst 22 = .ok (.istore_n 1, 1) := by decide +kernel
theorem dX5_setAsAtFirst_23 : decode cX5_setAsAtFirst 23 = .ok (.iload_n 1, 1) := by decide +kernel
theorem dX5_setAsAtFirst_24 : decode cX5_setAsAtFirst 24 = .ok (.bipush 9, 2) := by decide +kernel
theorem dX5_setAsAtFirst_26 : decode cX5_setAsAtFirst 26 = .ok (.if_icmp .ge 39, 3) := by decide +kernel
theorem dX5_setAsAtFirst_29 : decode cX5_setAsAtFirst 29 = .ok (.iconst 0, 1) := by decide +kernel
theorem dX5_setAsAtFirst_30 : decode cX5_setAsAtFirst 30 = .ok (.istore_n 2, 1) := by decide +kernel
theorem dX5_setAsAtFirst_31 : decode cX5_setAsAtFirst 31 = .ok (.iload_n 2, 1) := by decide +kernel
theorem dX5_setAsAtFirst_32 : decode cX5_setAsAtFirst 32 = .ok (.bipush 6, 2) := by decide +kernel
theorem dX5_setAsAtFirst_34 : decode cX5_setAsAtFirst 34 = .ok (.if_icmp .ge 25, 3) := by decide +kernel
theorem dX5_setAsAtFirst_37 : decode cX5_setAsAtFirst 37 = .ok (.aload_n 0, 1) := by decide +kernel
theorem dX5_setAsAtFirst_38 : decode cX5_setAsAtFirst 38 = .ok (.getfield 13, 3) := by decide +kernel
theorem dX5_setAsAtFirst_41 : decode cX5_setAsAtFirst 41 = .ok (.iload_n 1, 1) := by decide +kernel
theorem dX5_setAsAtFirst_42 : decode cX5_setAsAtFirst 42 = .ok (.bipush 6, 2) := by decide +kernel
theorem dX5_setAsAtFirst_44 : decode cX5_setAsAtFirst 44 = .ok (.imul, 1) := by decide +kernel
theorem dX5_setAsAtFirst_45 : decode cX5_setAsAtFirst 45 = .ok (.iload_n 2, 1) := by decide +kernel
theorem dX5_setAsAtFirst_46 : decode cX5_setAsAtFirst 46 = .ok (.iadd, 1) := by decide +kernel
theorem dX5_setAsAtFirst_47 : decode cX5_setAsAtFirst 47 = .ok (.getstatic 73, 3) := by decide +kernel
theorem dX5_setAsAtFirst_50 : decode cX5_setAsAtFirst 50 = .ok (.iload_n 1, 1) := by decide +kernel
theorem dX5_setAsAtFirst_51 : decode cX5_setAsAtFirst 51 = .ok (.iaload, 1) := by decide +kernel
theorem dX5_setAsAtFirst_52 : decode cX5_setAsAtFirst 52 = .ok (.iastore, 1) := by decide +kernel
theorem dX5_setAsAtFirst_53 : decode cX5_setAsAtFirst 53 = .ok (.iinc 2 1, 3) := by decide +kernel
theorem dX5_setAsAtFirst_56 : decode cX5_setAsAtFirst 56 = .ok (.goto (-25), 3) := by decide +kernel
theorem dX5_setAsAtFirst_59 : decode cX5_setAsAtFirst 59 = .ok (.iinc 1 1, 3) := by decide +kernel
theorem dX5_setAsAtFirst_62 : decode cX5_setAsAtFirst 62 = .ok (.goto (-39), 3) := by decide +kernel
theorem dX5_setAsAtFirst_65 : decode cX5_setAsAtFirst 65 = .ok (.return_, 1) := by decide +kernel
