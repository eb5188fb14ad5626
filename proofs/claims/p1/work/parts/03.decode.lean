theorem dX0_init_0 : decode cX0_init 0 = .ok (.aload_n 0, 1) := by decide +kernel
theorem dX0_init_1 : decode cX0_init 1 = .ok (.invokespecial 3, 3) := by decide +kernel
theorem dX0_init_4 : decode cX0_init 4 = .ok (.aload_n 0, 1) := by decide +kernel
theorem dX0_init_5 : decode cX0_init 5 = .ok (.bipush 8, 2) := by decide +kernel
theorem dX0_init_7 : decode cX0_init 7 = .ok (.newarray .int, 2) := by decide +kernel
theorem dX0_init_9 : decode cX0_init 9 = .ok (.putfield 9, 3) := by decide +kernel
theorem dX0_init_12 : decode cX0_init 12 = .ok (.aload_n 0, 1) := by decide +kernel
theorem dX0_init_13 : decode cX0_init 13 = .ok (.bipush 8, 2) := by decide +kernel
theorem dX0_init_15 : decode cX0_init 15 = .ok (.newarray .int, 2) := by decide +kernel
theorem dX0_init_17 : decode cX0_init 17 = .ok (.putfield 15, 3) := by decide +kernel
theorem dX0_init_20 : decode cX0_init 20 = .ok (.aload_n 0, 1) := by decide +kernel
theorem dX0_init_21 : decode cX0_init 21 = .ok (.bipush 8, 2) := by decide +kernel
theorem dX0_init_23 : decode cX0_init 23 = .ok (.newarray .int, 2) := by decide +kernel
theorem dX0_init_25 : decode cX0_init 25 = .ok (.putfield 18, 3) := by decide +kernel
theorem dX0_init_28 : decode cX0_init 28 = .ok (.aload_n 0, 1) := by decide +kernel
theorem dX0_init_29 : decode cX0_init 29 = .ok (.bipush 8, 2) := by decide +kernel
theorem dX0_init_31 : decode cX0_init 31 = .ok (.newarray .int, 2) := by decide +kernel
theorem dX0_init_33 : decode cX0_init 33 = .ok (.putfield 21, 3) := by decide +kernel
theorem dX0_init_36 : decode cX0_init 36 = .ok (.aload_n 0, 1) := by decide +kernel
theorem dX0_init_37 : decode cX0_init 37 = .ok (.sipush 145, 3) := by decide +kernel
theorem dX0_init_40 : decode cX0_init 40 = .ok (.newarray .int, 2) := by decide +kernel
theorem dX0_init_42 : decode cX0_init 42 = .ok (.putfield 24, 3) := by decide +kernel
theorem dX0_init_45 : decode cX0_init 45 = .ok (.return_, 1) := by decide +kernel
theorem dX0_setWaits_0 : decode cX0_setWaits 0 = .ok (.iconst 0, 1) := by decide +kernel
theorem dX0_setWaits_1 : decode cX0_setWaits 1 = .ok (.istore_n 2, 1) := by decide +kernel
theorem dX0_setWaits_2 : decode cX0_setWaits 2 = .ok (.iload_n 2, 1) := by decide +kernel
theorem dX0_setWaits_3 : decode cX0_setWaits 3 = .ok (.aload_n 1, 1) := by decide +kernel
theorem dX0_setWaits_4 : decode cX0_setWaits 4 = .ok (.getfield 27, 3) := by decide +kernel
theorem dX0_setWaits_7 : decode cX0_setWaits 7 = .ok (.if_icmp .ge 21, 3) := by decide +kernel
theorem dX0_setWaits_28 : decode cX0_setWaits 28 = .ok (.return_, 1) := by decide +kernel
theorem dX0_copyTakes_0 : decode cX0_copyTakes 0 = .ok (.aload_n 1, 1) := by decide +kernel
theorem dX0_copyTakes_1 : decode cX0_copyTakes 1 = .ok (.iconst 0, 1) := by decide +kernel
theorem dX0_copyTakes_2 : decode cX0_copyTakes 2 = .ok (.aload_n 0, 1) := by decide +kernel
theorem dX0_copyTakes_3 : decode cX0_copyTakes 3 = .ok (.getfield 15, 3) := by decide +kernel
theorem dX0_copyTakes_6 : decode cX0_copyTakes 6 = .ok (.iconst 0, 1) := by decide +kernel
theorem dX0_copyTakes_7 : decode cX0_copyTakes 7 = .ok (.bipush 8, 2) := by decide +kernel
theorem dX0_copyTakes_9 : decode cX0_copyTakes 9 = .ok (.invokestatic 37, 3) := by decide +kernel
theorem dX0_copyTakes_12 : decode cX0_copyTakes 12 = .ok (.return_, 1) := by decide +kernel
theorem dX0_follow_0 : decode cX0_follow 0 = .ok (.iconst 0, 1) := by decide +kernel
theorem dX0_follow_1 : decode cX0_follow 1 = .ok (.istore_n 3, 1) := by decide +kernel
theorem dX0_follow_2 : decode cX0_follow 2 = .ok (.aload_n 0, 1) := by decide +kernel
theorem dX0_follow_3 : decode cX0_follow 3 = .ok (.iconst 0, 1) := by decide +kernel
theorem dX0_follow_4 : decode cX0_follow 4 = .ok (.putfield 43, 3) := by decide +kernel
theorem dX0_follow_7 : decode cX0_follow 7 = .ok (.aload_n 0, 1) := by decide +kernel
theorem dX0_follow_8 : decode cX0_follow 8 = .ok (.iconst 0, 1) := by decide +kernel
theorem dX0_follow_9 : decode cX0_follow 9 = .ok (.putfield 46, 3) := by decide +kernel
theorem dX0_follow_12 : decode cX0_follow 12 = .ok (.iconst 0, 1) := by decide +kernel
theorem dX0_follow_13 : decode cX0_follow 13 = .ok (.istore 4, 2) := by decide +kernel
theorem dX0_follow_15 : decode cX0_follow 15 = .ok (.iload 4, 2) := by decide +kernel
theorem dX0_follow_17 : decode cX0_follow 17 = .ok (.bipush 8, 2) := by decide +kernel
theorem dX0_follow_19 : decode cX0_follow 19 = .ok (.if_icmp .gt 102, 3) := by decide +kernel
theorem dX0_follow_22 : decode cX0_follow 22 = .ok (.iload_n 3, 1) := by decide +kernel
theorem dX0_follow_23 : decode cX0_follow 23 = .ok (.aload_n 0, 1) := by decide +kernel
theorem dX0_follow_24 : decode cX0_follow 24 = .ok (.aload_n 1, 1) := by decide +kernel
theorem dX0_follow_25 : decode cX0_follow 25 = .ok (.iload_n 2, 1) := by decide +kernel
theorem dX0_follow_26 : decode cX0_follow 26 = .ok (.iload_n 3, 1) := by decide +kernel
theorem dX0_follow_27 : decode cX0_follow 27 = .ok (.iconst (-1), 1) := by decide +kernel
theorem dX0_follow_28 : decode cX0_follow 28 = .ok (.ixor, 1) := by decide +kernel
theorem dX0_follow_29 : decode cX0_follow 29 = .ok (.iand, 1) := by decide +kernel
theorem dX0_follow_30 : decode cX0_follow 30 = .ok (.invokevirtual 49, 3) := by decide +kernel
theorem dX0_follow_33 : decode cX0_follow 33 = .ok (.ior, 1) := by decide +kernel
theorem dX0_follow_34 : decode cX0_follow 34 = .ok (.istore_n 3, 1) := by decide +kernel
theorem dX0_follow_35 : decode cX0_follow 35 = .ok (.iload_n 3, 1) := by decide +kernel
theorem dX0_follow_36 : decode cX0_follow 36 = .ok (.aload_n 0, 1) := by decide +kernel
theorem dX0_follow_37 : decode cX0_follow 37 = .ok (.getfield 43, 3) := by decide +kernel
theorem dX0_follow_40 : decode cX0_follow 40 = .ok (.iconst (-1), 1) := by decide +kernel
theorem dX0_follow_41 : decode cX0_follow 41 = .ok (.ixor, 1) := by decide +kernel
theorem dX0_follow_42 : decode cX0_follow 42 = .ok (.iand, 1) := by decide +kernel
theorem dX0_follow_43 : decode cX0_follow 43 = .ok (.istore 5, 2) := by decide +kernel
theorem dX0_follow_45 : decode cX0_follow 45 = .ok (.iload 5, 2) := by decide +kernel
theorem dX0_follow_47 : decode cX0_follow 47 = .ok (.ifCond .ne 4, 3) := by decide +kernel
theorem dX0_follow_50 : decode cX0_follow 50 = .ok (.return_, 1) := by decide +kernel
theorem dX0_begin_0 : decode cX0_begin 0 = .ok (.iconst 0, 1) := by decide +kernel
theorem dX0_begin_1 : decode cX0_begin 1 = .ok (.istore_n 3, 1) := by decide +kernel
theorem dX0_begin_2 : decode cX0_begin 2 = .ok (.iconst 0, 1) := by decide +kernel
theorem dX0_begin_3 : decode cX0_begin 3 = .ok (.istore 4, 2) := by decide +kernel
theorem dX0_begin_5 : decode cX0_begin 5 = .ok (.iload 4, 2) := by decide +kernel
theorem dX0_begin_7 : decode cX0_begin 7 = .ok (.aload_n 1, 1) := by decide +kernel
theorem dX0_begin_8 : decode cX0_begin 8 = .ok (.getfield 27, 3) := by decide +kernel
theorem dX0_begin_11 : decode cX0_begin 11 = .ok (.if_icmp .ge 84, 3) := by decide +kernel
theorem dX0_begin_95 : decode cX0_begin 95 = .ok (.iload_n 3, 1) := by decide +kernel
theorem dX0_begin_96 : decode cX0_begin 96 = .ok (.ireturn, 1) := by decide +kernel
theorem dX0_drawnAt_0 : decode cX0_drawnAt 0 = .ok (.iconst 0, 1) := by decide +kernel
theorem dX0_drawnAt_1 : decode cX0_drawnAt 1 = .ok (.istore_n 3, 1) := by decide +kernel
theorem dX0_drawnAt_2 : decode cX0_drawnAt 2 = .ok (.iconst 0, 1) := by decide +kernel
theorem dX0_drawnAt_3 : decode cX0_drawnAt 3 = .ok (.istore 4, 2) := by decide +kernel
theorem dX0_drawnAt_5 : decode cX0_drawnAt 5 = .ok (.iload 4, 2) := by decide +kernel
theorem dX0_drawnAt_7 : decode cX0_drawnAt 7 = .ok (.aload_n 1, 1) := by decide +kernel
theorem dX0_drawnAt_8 : decode cX0_drawnAt 8 = .ok (.getfield 27, 3) := by decide +kernel
theorem dX0_drawnAt_11 : decode cX0_drawnAt 11 = .ok (.if_icmp .ge 66, 3) := by decide +kernel
theorem dX0_drawnAt_77 : decode cX0_drawnAt 77 = .ok (.iload_n 3, 1) := by decide +kernel
theorem dX0_drawnAt_78 : decode cX0_drawnAt 78 = .ok (.ireturn, 1) := by decide +kernel
theorem dX1_thatExplain_0 : decode cX1_thatExplain 0 = .ok (.aload_n 0, 1) := by decide +kernel
theorem dX1_thatExplain_1 : decode cX1_thatExplain 1 = .ok (.invokevirtual 15, 3) := by decide +kernel
theorem dX1_thatExplain_4 : decode cX1_thatExplain 4 = .ok (.istore_n 2, 1) := by decide +kernel
theorem dX1_thatExplain_5 : decode cX1_thatExplain 5 = .ok (.aload_n 0, 1) := by decide +kernel
theorem dX1_thatExplain_6 : decode cX1_thatExplain 6 = .ok (.iload_n 2, 1) := by decide +kernel
theorem dX1_thatExplain_7 : decode cX1_thatExplain 7 = .ok (.invokevirtual 9, 3) := by decide +kernel
theorem dX1_thatExplain_10 : decode cX1_thatExplain 10 = .ok (.iload_n 1, 1) := by decide +kernel
theorem dX1_thatExplain_11 : decode cX1_thatExplain 11 = .ok (.if_icmp .ne 9, 3) := by decide +kernel
theorem dX1_thatExplain_14 : decode cX1_thatExplain 14 = .ok (.sipush 256, 3) := by decide +kernel
theorem dX1_thatExplain_17 : decode cX1_thatExplain 17 = .ok (.goto 4, 3) := by decide +kernel
theorem dX1_thatExplain_21 : decode cX1_thatExplain 21 = .ok (.istore_n 3, 1) := by decide +kernel
theorem dX1_thatExplain_22 : decode cX1_thatExplain 22 = .ok (.iconst 0, 1) := by decide +kernel
theorem dX1_thatExplain_23 : decode cX1_thatExplain 23 = .ok (.istore 4, 2) := by decide +kernel
theorem dX1_thatExplain_25 : decode cX1_thatExplain 25 = .ok (.iload 4, 2) := by decide +kernel
theorem dX1_thatExplain_27 : decode cX1_thatExplain 27 = .ok (.aload_n 0, 1) := by decide +kernel
theorem dX1_thatExplain_28 : decode cX1_thatExplain 28 = .ok (.getfield 30, 3) := by decide +kernel
theorem dX1_thatExplain_31 : decode cX1_thatExplain 31 = .ok (.if_icmp .ge 32, 3) := by decide +kernel
theorem dX1_thatExplain_63 : decode cX1_thatExplain 63 = .ok (.iload_n 3, 1) := by decide +kernel
theorem dX1_thatExplain_64 : decode cX1_thatExplain 64 = .ok (.ireturn, 1) := by decide +kernel
theorem dX2_init_0 : decode cX2_init 0 = .ok (.aload_n 0, 1) := by decide +kernel
theorem dX2_init_1 : decode cX2_init 1 = .ok (.invokespecial 1, 3) := by decide +kernel
theorem dX2_init_4 : decode cX2_init 4 = .ok (.aload_n 0, 1) := by decide +kernel
theorem dX2_init_5 : decode cX2_init 5 = .ok (.bipush 64, 2) := by decide +kernel
theorem dX2_init_7 : decode cX2_init 7 = .ok (.newarray .int, 2) := by decide +kernel
theorem dX2_init_9 : decode cX2_init 9 = .ok (.putfield 9, 3) := by decide +kernel
theorem dX2_init_12 : decode cX2_init 12 = .ok (.aload_n 0, 1) := by decide +kernel
theorem dX2_init_13 : decode cX2_init 13 = .ok (.bipush 64, 2) := by decide +kernel
theorem dX2_init_15 : decode cX2_init 15 = .ok (.newarray .int, 2) := by decide +kernel
theorem dX2_init_17 : decode cX2_init 17 = .ok (.putfield 13, 3) := by decide +kernel
theorem dX2_init_20 : decode cX2_init 20 = .ok (.aload_n 0, 1) := by decide +kernel
theorem dX2_init_21 : decode cX2_init 21 = .ok (.bipush 64, 2) := by decide +kernel
theorem dX2_init_23 : decode cX2_init 23 = .ok (.newarray .int, 2) := by decide +kernel
theorem dX2_init_25 : decode cX2_init 25 = .ok (.putfield 16, 3) := by decide +kernel
theorem dX2_init_28 : decode cX2_init 28 = .ok (.aload_n 0, 1) := by decide +kernel
theorem dX2_init_29 : decode cX2_init 29 = .ok (.iconst 0, 1) := by decide +kernel
theorem dX2_init_30 : decode cX2_init 30 = .ok (.putfield 19, 3) := by decide +kernel
theorem dX2_init_33 : decode cX2_init 33 = .ok (.return_, 1) := by decide +kernel
theorem dX3_init_0 : decode cX3_init 0 = .ok (.aload_n 0, 1) := by decide +kernel
theorem dX3_init_1 : decode cX3_init 1 = .ok (.invokespecial 3, 3) := by decide +kernel
theorem dX3_init_4 : decode cX3_init 4 = .ok (.aload_n 0, 1) := by decide +kernel
theorem dX3_init_5 : decode cX3_init 5 = .ok (.bipush 64, 2) := by decide +kernel
theorem dX3_init_7 : decode cX3_init 7 = .ok (.newarray .int, 2) := by decide +kernel
theorem dX3_init_9 : decode cX3_init 9 = .ok (.putfield 11, 3) := by decide +kernel
theorem dX3_init_12 : decode cX3_init 12 = .ok (.aload_n 0, 1) := by decide +kernel
theorem dX3_init_13 : decode cX3_init 13 = .ok (.bipush 64, 2) := by decide +kernel
theorem dX3_init_15 : decode cX3_init 15 = .ok (.newarray .long, 2) := by decide +kernel
theorem dX3_init_17 : decode cX3_init 17 = .ok (.putfield 15, 3) := by decide +kernel
theorem dX3_init_20 : decode cX3_init 20 = .ok (.aload_n 0, 1) := by decide +kernel
theorem dX3_init_21 : decode cX3_init 21 = .ok (.iconst 0, 1) := by decide +kernel
theorem dX3_init_22 : decode cX3_init 22 = .ok (.putfield 19, 3) := by decide +kernel
theorem dX3_init_25 : decode cX3_init 25 = .ok (.aload_n 0, 1) := by decide +kernel
theorem dX3_init_26 : decode cX3_init 26 = .ok (.sipush 999, 3) := by decide +kernel
theorem dX3_init_29 : decode cX3_init 29 = .ok (.putfield 23, 3) := by decide +kernel
theorem dX3_init_32 : decode cX3_init 32 = .ok (.aload_n 0, 1) := by decide +kernel
theorem dX3_init_33 : decode cX3_init 33 = .ok (.iconst 0, 1) := by decide +kernel
theorem dX3_init_34 : decode cX3_init 34 = .ok (.putfield 26, 3) := by decide +kernel
theorem dX3_init_37 : decode cX3_init 37 = .ok (.aload_n 0, 1) := by decide +kernel
theorem dX3_init_38 : decode cX3_init 38 = .ok (.iconst 5, 1) := by decide +kernel
theorem dX3_init_39 : decode cX3_init 39 = .ok (.putfield 29, 3) := by decide +kernel
theorem dX3_init_42 : decode cX3_init 42 = .ok (.return_, 1) := by decide +kernel
theorem dX3_reset_0 : decode cX3_reset 0 = .ok (.aload_n 0, 1) := by decide +kernel
theorem dX3_reset_1 : decode cX3_reset 1 = .ok (.iconst 0, 1) := by decide +kernel
theorem dX3_reset_2 : decode cX3_reset 2 = .ok (.putfield 19, 3) := by decide +kernel
theorem dX3_reset_5 : decode cX3_reset 5 = .ok (.aload_n 0, 1) := by decide +kernel
theorem dX3_reset_6 : decode cX3_reset 6 = .ok (.sipush 999, 3) := by decide +kernel
theorem dX3_reset_9 : decode cX3_reset 9 = .ok (.putfield 23, 3) := by decide +kernel
theorem dX3_reset_12 : decode cX3_reset 12 = .ok (.aload_n 0, 1) := by decide +kernel
theorem dX3_reset_13 : decode cX3_reset 13 = .ok (.iconst 0, 1) := by decide +kernel
theorem dX3_reset_14 : decode cX3_reset 14 = .ok (.putfield 26, 3) := by decide +kernel
theorem dX3_reset_17 : decode cX3_reset 17 = .ok (.aload_n 0, 1) := by decide +kernel
theorem dX3_reset_18 : decode cX3_reset 18 = .ok (.iconst 5, 1) := by decide +kernel
theorem dX3_reset_19 : decode cX3_reset 19 = .ok (.putfield 29, 3) := by decide +kernel
theorem dX3_reset_22 : decode cX3_reset 22 = .ok (.return_, 1) := by decide +kernel
theorem dX3_hasRail_0 : decode cX3_hasRail 0 = .ok (.iload_n 1, 1) := by decide +kernel
theorem dX3_hasRail_1 : decode cX3_hasRail 1 = .ok (.ifCond .lt 15, 3) := by decide +kernel
theorem dX3_hasRail_4 : decode cX3_hasRail 4 = .ok (.iload_n 1, 1) := by decide +kernel
theorem dX3_hasRail_5 : decode cX3_hasRail 5 = .ok (.aload_n 0, 1) := by decide +kernel
theorem dX3_hasRail_6 : decode cX3_hasRail 6 = .ok (.getfield 19, 3) := by decide +kernel
theorem dX3_hasRail_9 : decode cX3_hasRail 9 = .ok (.if_icmp .ge 7, 3) := by decide +kernel
theorem dX3_hasRail_16 : decode cX3_hasRail 16 = .ok (.iconst 0, 1) := by decide +kernel
theorem dX3_hasRail_17 : decode cX3_hasRail 17 = .ok (.ireturn, 1) := by decide +kernel
theorem dX3_allRails_0 : decode cX3_allRails 0 = .ok (.iconst 1, 1) := by decide +kernel
theorem dX3_allRails_1 : decode cX3_allRails 1 = .ok (.aload_n 0, 1) := by decide +kernel
theorem dX3_allRails_2 : decode cX3_allRails 2 = .ok (.getfield 19, 3) := by decide +kernel
theorem dX3_allRails_5 : decode cX3_allRails 5 = .ok (.ishl, 1) := by decide +kernel
theorem dX3_allRails_6 : decode cX3_allRails 6 = .ok (.iconst 1, 1) := by decide +kernel
theorem dX3_allRails_7 : decode cX3_allRails 7 = .ok (.isub, 1) := by decide +kernel
theorem dX3_allRails_8 : decode cX3_allRails 8 = .ok (.ireturn, 1) := by decide +kernel
theorem dX3_number_0 : decode cX3_number 0 = .ok (.aload_n 0, 1) := by decide +kernel
theorem dX3_number_1 : decode cX3_number 1 = .ok (.getfield 11, 3) := by decide +kernel
theorem dX3_number_4 : decode cX3_number 4 = .ok (.iload_n 1, 1) := by decide +kernel
theorem dX3_number_5 : decode cX3_number 5 = .ok (.bipush 8, 2) := by decide +kernel
theorem dX3_number_7 : decode cX3_number 7 = .ok (.imul, 1) := by decide +kernel
theorem dX3_number_8 : decode cX3_number 8 = .ok (.iload_n 2, 1) := by decide +kernel
theorem dX3_number_9 : decode cX3_number 9 = .ok (.iadd, 1) := by decide +kernel
theorem dX3_number_10 : decode cX3_number 10 = .ok (.iaload, 1) := by decide +kernel
theorem dX3_number_11 : decode cX3_number 11 = .ok (.ireturn, 1) := by decide +kernel
theorem dX3_upAmong_0 : decode cX3_upAmong 0 = .ok (.iconst 0, 1) := by decide +kernel
theorem dX3_upAmong_1 : decode cX3_upAmong 1 = .ok (.istore_n 2, 1) := by decide +kernel
theorem dX3_upAmong_2 : decode cX3_upAmong 2 = .ok (.iconst 0, 1) := by decide +kernel
theorem dX3_upAmong_3 : decode cX3_upAmong 3 = .ok (.istore_n 3, 1) := by decide +kernel
theorem dX3_upAmong_4 : decode cX3_upAmong 4 = .ok (.iload_n 3, 1) := by decide +kernel
theorem dX3_upAmong_5 : decode cX3_upAmong 5 = .ok (.bipush 8, 2) := by decide +kernel
theorem dX3_upAmong_7 : decode cX3_upAmong 7 = .ok (.if_icmp .gt 75, 3) := by decide +kernel
theorem dX3_upAmong_10 : decode cX3_upAmong 10 = .ok (.iload_n 2, 1) := by decide +kernel
theorem dX3_upAmong_11 : decode cX3_upAmong 11 = .ok (.istore 4, 2) := by decide +kernel
theorem dX3_upAmong_13 : decode cX3_upAmong 13 = .ok (.iconst 0, 1) := by decide +kernel
theorem dX3_upAmong_14 : decode cX3_upAmong 14 = .ok (.istore 5, 2) := by decide +kernel
theorem dX3_upAmong_16 : decode cX3_upAmong 16 = .ok (.iload 5, 2) := by decide +kernel
theorem dX3_upAmong_18 : decode cX3_upAmong 18 = .ok (.aload_n 0, 1) := by decide +kernel
theorem dX3_upAmong_19 : decode cX3_upAmong 19 = .ok (.getfield 19, 3) := by decide +kernel
theorem dX3_upAmong_22 : decode cX3_upAmong 22 = .ok (.if_icmp .ge 42, 3) := by decide +kernel
theorem dX3_upAmong_64 : decode cX3_upAmong 64 = .ok (.iload 4, 2) := by decide +kernel
theorem dX3_upAmong_66 : decode cX3_upAmong 66 = .ok (.iload_n 2, 1) := by decide +kernel
theorem dX3_upAmong_67 : decode cX3_upAmong 67 = .ok (.if_icmp .ne 6, 3) := by decide +kernel
theorem dX3_upAmong_70 : decode cX3_upAmong 70 = .ok (.goto 12, 3) := by decide +kernel
theorem dX3_upAmong_82 : decode cX3_upAmong 82 = .ok (.iload_n 2, 1) := by decide +kernel
theorem dX3_upAmong_83 : decode cX3_upAmong 83 = .ok (.ireturn, 1) := by decide +kernel
theorem dX3_countWays_0 : decode cX3_countWays 0 = .ok (.iconst 1, 1) := by decide +kernel
theorem dX3_countWays_1 : decode cX3_countWays 1 = .ok (.istore_n 1, 1) := by decide +kernel
theorem dX3_countWays_2 : decode cX3_countWays 2 = .ok (.iconst 0, 1) := by decide +kernel
theorem dX3_countWays_3 : decode cX3_countWays 3 = .ok (.istore_n 2, 1) := by decide +kernel
theorem dX3_countWays_4 : decode cX3_countWays 4 = .ok (.iload_n 2, 1) := by decide +kernel
theorem dX3_countWays_5 : decode cX3_countWays 5 = .ok (.aload_n 0, 1) := by decide +kernel
theorem dX3_countWays_6 : decode cX3_countWays 6 = .ok (.getfield 19, 3) := by decide +kernel
theorem dX3_countWays_9 : decode cX3_countWays 9 = .ok (.if_icmp .ge 27, 3) := by decide +kernel
theorem dX3_countWays_36 : decode cX3_countWays 36 = .ok (.iload_n 1, 1) := by decide +kernel
theorem dX3_countWays_37 : decode cX3_countWays 37 = .ok (.ireturn, 1) := by decide +kernel
theorem dX4_init_0 : decode cX4_init 0 = .ok (.aload_n 0, 1) := by decide +kernel
theorem dX4_init_1 : decode cX4_init 1 = .ok (.invokespecial 3, 3) := by decide +kernel
theorem dX4_init_4 : decode cX4_init 4 = .ok (.aload_n 0, 1) := by decide +kernel
theorem dX4_init_5 : decode cX4_init 5 = .ok (.aload_n 1, 1) := by decide +kernel
theorem dX4_init_6 : decode cX4_init 6 = .ok (.putfield 9, 3) := by decide +kernel
theorem dX4_init_9 : decode cX4_init 9 = .ok (.aload_n 0, 1) := by decide +kernel
theorem dX4_init_10 : decode cX4_init 10 = .ok (.aload_n 2, 1) := by decide +kernel
theorem dX4_init_11 : decode cX4_init 11 = .ok (.putfield 15, 3) := by decide +kernel
theorem dX4_init_14 : decode cX4_init 14 = .ok (.aload_n 0, 1) := by decide +kernel
theorem dX4_init_15 : decode cX4_init 15 = .ok (.bipush 8, 2) := by decide +kernel
theorem dX4_init_17 : decode cX4_init 17 = .ok (.newarray .int, 2) := by decide +kernel
theorem dX4_init_19 : decode cX4_init 19 = .ok (.putfield 19, 3) := by decide +kernel
theorem dX4_init_22 : decode cX4_init 22 = .ok (.aload_n 0, 1) := by decide +kernel
theorem dX4_init_23 : decode cX4_init 23 = .ok (.bipush 7, 2) := by decide +kernel
theorem dX4_init_25 : decode cX4_init 25 = .ok (.bipush 8, 2) := by decide +kernel
theorem dX4_init_27 : decode cX4_init 27 = .ok (.multianewarray 25 2, 4) := by decide +kernel
theorem dX4_init_31 : decode cX4_init 31 = .ok (.putfield 27, 3) := by decide +kernel
theorem dX4_init_34 : decode cX4_init 34 = .ok (.aload_n 0, 1) := by decide +kernel
theorem dX4_init_35 : decode cX4_init 35 = .ok (.bipush 7, 2) := by decide +kernel
theorem dX4_init_37 : decode cX4_init 37 = .ok (.bipush 8, 2) := by decide +kernel
theorem dX4_init_39 : decode cX4_init 39 = .ok (.multianewarray 25 2, 4) := by decide +kernel
theorem dX4_init_43 : decode cX4_init 43 = .ok (.putfield 30, 3) := by decide +kernel
theorem dX4_init_46 : decode cX4_init 46 = .ok (.return_, 1) := by decide +kernel
theorem dX4_readText_0 : decode cX4_readText 0 = .ok (.aload_n 0, 1) := by decide +kernel
theorem dX4_readText_1 : decode cX4_readText 1 = .ok (.aload_n 1, 1) := by decide +kernel
theorem dX4_readText_2 : decode cX4_readText 2 = .ok (.putfield 15, 3) := by decide +kernel
theorem dX4_readText_5 : decode cX4_readText 5 = .ok (.aload_n 0, 1) := by decide +kernel
theorem dX4_readText_6 : decode cX4_readText 6 = .ok (.getfield 15, 3) := by decide +kernel
theorem dX4_readText_9 : decode cX4_readText 9 = .ok (.invokevirtual 33, 3) := by decide +kernel
theorem dX4_readText_12 : decode cX4_readText 12 = .ok (.aload_n 0, 1) := by decide +kernel
theorem dX4_readText_13 : decode cX4_readText 13 = .ok (.iconst 0, 1) := by decide +kernel
theorem dX4_readText_14 : decode cX4_readText 14 = .ok (.putfield 36, 3) := by decide +kernel
theorem dX4_readText_17 : decode cX4_readText 17 = .ok (.aload_n 0, 1) := by decide +kernel
theorem dX4_readText_18 : decode cX4_readText 18 = .ok (.iconst 0, 1) := by decide +kernel
theorem dX4_readText_19 : decode cX4_readText 19 = .ok (.putfield 40, 3) := by decide +kernel
theorem dX4_readText_22 : decode cX4_readText 22 = .ok (.aload_n 0, 1) := by decide +kernel
theorem dX4_readText_23 : decode cX4_readText 23 = .ok (.iconst 0, 1) := by decide +kernel
theorem dX4_readText_24 : decode cX4_readText 24 = .ok (.putfield 43, 3) := by decide +kernel
theorem dX4_readText_27 : decode cX4_readText 27 = .ok (.aload_n 0, 1) := by decide +kernel
theorem dX4_readText_28 : decode cX4_readText 28 = .ok (.iconst 0, 1) := by decide +kernel
theorem dX4_readText_29 : decode cX4_readText 29 = .ok (.putfield 46, 3) := by decide +kernel
theorem dX4_readText_32 : decode cX4_readText 32 = .ok (.aload_n 0, 1) := by decide +kernel
theorem dX4_readText_33 : decode cX4_readText 33 = .ok (.getfield 19, 3) := by decide +kernel
theorem dX4_readText_36 : decode cX4_readText 36 = .ok (.bipush (-4), 2) := by decide +kernel
theorem dX4_readText_38 : decode cX4_readText 38 = .ok (.invokestatic 49, 3) := by decide +kernel
theorem dX4_readText_41 : decode cX4_readText 41 = .ok (.aload_n 0, 1) := by decide +kernel
theorem dX4_readText_42 : decode cX4_readText 42 = .ok (.invokevirtual 55, 3) := by decide +kernel
theorem dX4_readText_45 : decode cX4_readText 45 = .ok (.iconst 0, 1) := by decide +kernel
theorem dX4_readText_46 : decode cX4_readText 46 = .ok (.istore_n 2, 1) := by decide +kernel
theorem dX4_readText_47 : decode cX4_readText 47 = .ok (.iconst 0, 1) := by decide +kernel
theorem dX4_readText_48 : decode cX4_readText 48 = .ok (.istore_n 3, 1) := by decide +kernel
theorem dX4_readText_49 : decode cX4_readText 49 = .ok (.iload_n 3, 1) := by decide +kernel
theorem dX4_readText_50 : decode cX4_readText 50 = .ok (.sipush 400, 3) := by decide +kernel
theorem dX4_readText_53 : decode cX4_readText 53 = .ok (.if_icmp .ge 52, 3) := by decide +kernel
theorem dX4_readText_56 : decode cX4_readText 56 = .ok (.aload_n 0, 1) := by decide +kernel
theorem dX4_readText_57 : decode cX4_readText 57 = .ok (.getfield 43, 3) := by decide +kernel
theorem dX4_readText_60 : decode cX4_readText 60 = .ok (.ifCond .ne 45, 3) := by decide +kernel
theorem dX4_readText_63 : decode cX4_readText 63 = .ok (.aload_n 0, 1) := by decide +kernel
theorem dX4_readText_64 : decode cX4_readText 64 = .ok (.getfield 60, 3) := by decide +kernel
theorem dX4_readText_67 : decode cX4_readText 67 = .ok (.ifCond .eq 38, 3) := by decide +kernel
theorem dX4_readText_105 : decode cX4_readText 105 = .ok (.aload_n 0, 1) := by decide +kernel
theorem dX4_readText_106 : decode cX4_readText 106 = .ok (.invokevirtual 79, 3) := by decide +kernel
theorem dX4_readText_109 : decode cX4_readText 109 = .ok (.iload_n 2, 1) := by decide +kernel
theorem dX4_readText_110 : decode cX4_readText 110 = .ok (.ireturn, 1) := by decide +kernel
theorem dX4_step_0 : decode cX4_step 0 = .ok (.aload_n 0, 1) := by decide +kernel
theorem dX4_step_1 : decode cX4_step 1 = .ok (.getfield 36, 3) := by decide +kernel
theorem dX4_step_4 : decode cX4_step 4 = .ok (.aload_n 0, 1) := by decide +kernel
theorem dX4_step_5 : decode cX4_step 5 = .ok (.getfield 9, 3) := by decide +kernel
theorem dX4_step_8 : decode cX4_step 8 = .ok (.getfield 82, 3) := by decide +kernel
theorem dX4_step_11 : decode cX4_step 11 = .ok (.if_icmp .ge 33, 3) := by decide +kernel
theorem dX4_step_44 : decode cX4_step 44 = .ok (.aload_n 0, 1) := by decide +kernel
theorem dX4_step_45 : decode cX4_step 45 = .ok (.aload_n 0, 1) := by decide +kernel
theorem dX4_step_46 : decode cX4_step 46 = .ok (.getfield 36, 3) := by decide +kernel
theorem dX4_step_49 : decode cX4_step 49 = .ok (.putfield 88, 3) := by decide +kernel
theorem dX4_step_52 : decode cX4_step 52 = .ok (.aload_n 0, 1) := by decide +kernel
theorem dX4_step_53 : decode cX4_step 53 = .ok (.iconst 0, 1) := by decide +kernel
theorem dX4_step_54 : decode cX4_step 54 = .ok (.putfield 91, 3) := by decide +kernel
theorem dX4_step_57 : decode cX4_step 57 = .ok (.aload_n 0, 1) := by decide +kernel
theorem dX4_step_58 : decode cX4_step 58 = .ok (.getfield 36, 3) := by decide +kernel
theorem dX4_step_61 : decode cX4_step 61 = .ok (.aload_n 0, 1) := by decide +kernel
theorem dX4_step_62 : decode cX4_step 62 = .ok (.getfield 9, 3) := by decide +kernel
theorem dX4_step_65 : decode cX4_step 65 = .ok (.getfield 82, 3) := by decide +kernel
theorem dX4_step_68 : decode cX4_step 68 = .ok (.if_icmp .lt 9, 3) := by decide +kernel
theorem dX4_step_71 : decode cX4_step 71 = .ok (.aload_n 0, 1) := by decide +kernel
theorem dX4_step_72 : decode cX4_step 72 = .ok (.iconst 0, 1) := by decide +kernel
theorem dX4_step_73 : decode cX4_step 73 = .ok (.putfield 60, 3) := by decide +kernel
theorem dX4_step_76 : decode cX4_step 76 = .ok (.return_, 1) := by decide +kernel
theorem dX4_findNotTold_0 : decode cX4_findNotTold 0 = .ok (.sipush 400, 3) := by decide +kernel
theorem dX4_findNotTold_3 : decode cX4_findNotTold 3 = .ok (.istore_n 1, 1) := by decide +kernel
theorem dX4_findNotTold_4 : decode cX4_findNotTold 4 = .ok (.aload_n 0, 1) := by decide +kernel
theorem dX4_findNotTold_5 : decode cX4_findNotTold 5 = .ok (.getfield 15, 3) := by decide +kernel
theorem dX4_findNotTold_8 : decode cX4_findNotTold 8 = .ok (.getfield 138, 3) := by decide +kernel
theorem dX4_findNotTold_11 : decode cX4_findNotTold 11 = .ok (.istore_n 2, 1) := by decide +kernel
theorem dX4_findNotTold_12 : decode cX4_findNotTold 12 = .ok (.iload_n 2, 1) := by decide +kernel
theorem dX4_findNotTold_13 : decode cX4_findNotTold 13 = .ok (.bipush 8, 2) := by decide +kernel
theorem dX4_findNotTold_15 : decode cX4_findNotTold 15 = .ok (.if_icmp .ge 31, 3) := by decide +kernel
theorem dX4_findNotTold_18 : decode cX4_findNotTold 18 = .ok (.aload_n 0, 1) := by decide +kernel
theorem dX4_findNotTold_19 : decode cX4_findNotTold 19 = .ok (.getfield 19, 3) := by decide +kernel
theorem dX4_findNotTold_22 : decode cX4_findNotTold 22 = .ok (.iload_n 2, 1) := by decide +kernel
theorem dX4_findNotTold_23 : decode cX4_findNotTold 23 = .ok (.iaload, 1) := by decide +kernel
theorem dX4_findNotTold_24 : decode cX4_findNotTold 24 = .ok (.bipush (-4), 2) := by decide +kernel
theorem dX4_findNotTold_26 : decode cX4_findNotTold 26 = .ok (.if_icmp .eq 14, 3) := by decide +kernel
theorem dX4_findNotTold_40 : decode cX4_findNotTold 40 = .ok (.iinc 2 1, 3) := by decide +kernel
theorem dX4_findNotTold_43 : decode cX4_findNotTold 43 = .ok (.goto (-31), 3) := by decide +kernel
theorem dX4_findNotTold_46 : decode cX4_findNotTold 46 = .ok (.iload_n 1, 1) := by decide +kernel
theorem dX4_findNotTold_47 : decode cX4_findNotTold 47 = .ok (.sipush 400, 3) := by decide +kernel
theorem dX4_findNotTold_50 : decode cX4_findNotTold 50 = .ok (.if_icmp .ge 10, 3) := by decide +kernel
theorem dX4_findNotTold_60 : decode cX4_findNotTold 60 = .ok (.return_, 1) := by decide +kernel
theorem dX5_init_0 : decode cX5_init 0 = .ok (.aload_n 0, 1) := by decide +kernel
theorem dX5_init_1 : decode cX5_init 1 = .ok (.invokespecial 3, 3) := by decide +kernel
theorem dX5_init_4 : decode cX5_init 4 = .ok (.aload_n 0, 1) := by decide +kernel
theorem dX5_init_5 : decode cX5_init 5 = .ok (.new 9, 3) := by decide +kernel
theorem dX5_init_8 : decode cX5_init 8 = .ok (.dup, 1) := by decide +kernel
theorem dX5_init_9 : decode cX5_init 9 = .ok (.invokespecial 11, 3) := by decide +kernel
theorem dX5_init_12 : decode cX5_init 12 = .ok (.putfield 12, 3) := by decide +kernel
theorem dX5_init_15 : decode cX5_init 15 = .ok (.aload_n 0, 1) := by decide +kernel
theorem dX5_init_16 : decode cX5_init 16 = .ok (.bipush 8, 2) := by decide +kernel
theorem dX5_init_18 : decode cX5_init 18 = .ok (.newarray .int, 2) := by decide +kernel
theorem dX5_init_20 : decode cX5_init 20 = .ok (.putfield 18, 3) := by decide +kernel
theorem dX5_init_23 : decode cX5_init 23 = .ok (.aload_n 0, 1) := by decide +kernel
theorem dX5_init_24 : decode cX5_init 24 = .ok (.bipush 8, 2) := by decide +kernel
theorem dX5_init_26 : decode cX5_init 26 = .ok (.newarray .int, 2) := by decide +kernel
theorem dX5_init_28 : decode cX5_init 28 = .ok (.putfield 22, 3) := by decide +kernel
theorem dX5_init_31 : decode cX5_init 31 = .ok (.aload_n 0, 1) := by decide +kernel
theorem dX5_init_32 : decode cX5_init 32 = .ok (.bipush 8, 2) := by decide +kernel
theorem dX5_init_34 : decode cX5_init 34 = .ok (.newarray .int, 2) := by decide +kernel
theorem dX5_init_36 : decode cX5_init 36 = .ok (.putfield 25, 3) := by decide +kernel
theorem dX5_init_39 : decode cX5_init 39 = .ok (.aload_n 0, 1) := by decide +kernel
theorem dX5_init_40 : decode cX5_init 40 = .ok (.bipush 8, 2) := by decide +kernel
theorem dX5_init_42 : decode cX5_init 42 = .ok (.newarray .int, 2) := by decide +kernel
theorem dX5_init_44 : decode cX5_init 44 = .ok (.putfield 28, 3) := by decide +kernel
theorem dX5_init_47 : decode cX5_init 47 = .ok (.aload_n 0, 1) := by decide +kernel
theorem dX5_init_48 : decode cX5_init 48 = .ok (.bipush 8, 2) := by decide +kernel
theorem dX5_init_50 : decode cX5_init 50 = .ok (.newarray .int, 2) := by decide +kernel
theorem dX5_init_52 : decode cX5_init 52 = .ok (.putfield 31, 3) := by decide +kernel
theorem dX5_init_55 : decode cX5_init 55 = .ok (.aload_n 0, 1) := by decide +kernel
theorem dX5_init_56 : decode cX5_init 56 = .ok (.iconst 0, 1) := by decide +kernel
theorem dX5_init_57 : decode cX5_init 57 = .ok (.putfield 34, 3) := by decide +kernel
theorem dX5_init_60 : decode cX5_init 60 = .ok (.aload_n 0, 1) := by decide +kernel
theorem dX5_init_61 : decode cX5_init 61 = .ok (.iconst 0, 1) := by decide +kernel
theorem dX5_init_62 : decode cX5_init 62 = .ok (.putfield 38, 3) := by decide +kernel
theorem dX5_init_65 : decode cX5_init 65 = .ok (.return_, 1) := by decide +kernel
theorem dX5_reset_0 : decode cX5_reset 0 = .ok (.aload_n 0, 1) := by decide +kernel
theorem dX5_reset_1 : decode cX5_reset 1 = .ok (.getfield 12, 3) := by decide +kernel
theorem dX5_reset_4 : decode cX5_reset 4 = .ok (.iconst 0, 1) := by decide +kernel
theorem dX5_reset_5 : decode cX5_reset 5 = .ok (.putfield 42, 3) := by decide +kernel
theorem dX5_reset_8 : decode cX5_reset 8 = .ok (.iconst 0, 1) := by decide +kernel
theorem dX5_reset_9 : decode cX5_reset 9 = .ok (.istore_n 2, 1) := by decide +kernel
theorem dX5_reset_10 : decode cX5_reset 10 = .ok (.iload_n 2, 1) := by decide +kernel
theorem dX5_reset_11 : decode cX5_reset 11 = .ok (.bipush 8, 2) := by decide +kernel
theorem dX5_reset_13 : decode cX5_reset 13 = .ok (.if_icmp .ge 49, 3) := by decide +kernel
theorem dX5_reset_16 : decode cX5_reset 16 = .ok (.aload_n 0, 1) := by decide +kernel
theorem dX5_reset_17 : decode cX5_reset 17 = .ok (.getfield 18, 3) := by decide +kernel
theorem dX5_reset_20 : decode cX5_reset 20 = .ok (.iload_n 2, 1) := by decide +kernel
theorem dX5_reset_21 : decode cX5_reset 21 = .ok (.iconst 0, 1) := by decide +kernel
theorem dX5_reset_22 : decode cX5_reset 22 = .ok (.iastore, 1) := by decide +kernel
theorem dX5_reset_23 : decode cX5_reset 23 = .ok (.aload_n 0, 1) := by decide +kernel
theorem dX5_reset_24 : decode cX5_reset 24 = .ok (.getfield 22, 3) := by decide +kernel
theorem dX5_reset_27 : decode cX5_reset 27 = .ok (.iload_n 2, 1) := by decide +kernel
theorem dX5_reset_28 : decode cX5_reset 28 = .ok (.iconst 0, 1) := by decide +kernel
theorem dX5_reset_29 : decode cX5_reset 29 = .ok (.iastore, 1) := by decide +kernel
theorem dX5_reset_30 : decode cX5_reset 30 = .ok (.aload_n 0, 1) := by decide +kernel
theorem dX5_reset_31 : decode cX5_reset 31 = .ok (.getfield 25, 3) := by decide +kernel
theorem dX5_reset_34 : decode cX5_reset 34 = .ok (.iload_n 2, 1) := by decide +kernel
theorem dX5_reset_35 : decode cX5_reset 35 = .ok (.iconst 0, 1) := by decide +kernel
theorem dX5_reset_36 : decode cX5_reset 36 = .ok (.iastore, 1) := by decide +kernel
theorem dX5_reset_37 : decode cX5_reset 37 = .ok (.aload_n 0, 1) := by decide +kernel
theorem dX5_reset_38 : decode cX5_reset 38 = .ok (.getfield 28, 3) := by decide +kernel
theorem dX5_reset_41 : decode cX5_reset 41 = .ok (.iload_n 2, 1) := by decide +kernel
theorem dX5_reset_42 : decode cX5_reset 42 = .ok (.aload_n 1, 1) := by decide +kernel
theorem dX5_reset_43 : decode cX5_reset 43 = .ok (.iload_n 2, 1) := by decide +kernel
theorem dX5_reset_44 : decode cX5_reset 44 = .ok (.iconst 0, 1) := by decide +kernel
theorem dX5_reset_45 : decode cX5_reset 45 = .ok (.invokevirtual 47, 3) := by decide +kernel
theorem dX5_reset_48 : decode cX5_reset 48 = .ok (.iastore, 1) := by decide +kernel
theorem dX5_reset_49 : decode cX5_reset 49 = .ok (.aload_n 0, 1) := by decide +kernel
theorem dX5_reset_50 : decode cX5_reset 50 = .ok (.getfield 31, 3) := by decide +kernel
theorem dX5_reset_53 : decode cX5_reset 53 = .ok (.iload_n 2, 1) := by decide +kernel
theorem dX5_reset_54 : decode cX5_reset 54 = .ok (.iconst 0, 1) := by decide +kernel
theorem dX5_reset_55 : decode cX5_reset 55 = .ok (.iastore, 1) := by decide +kernel
theorem dX5_reset_56 : decode cX5_reset 56 = .ok (.iinc 2 1, 3) := by decide +kernel
theorem dX5_reset_59 : decode cX5_reset 59 = .ok (.goto (-49), 3) := by decide +kernel
theorem dX5_reset_62 : decode cX5_reset 62 = .ok (.aload_n 0, 1) := by decide +kernel
theorem dX5_reset_63 : decode cX5_reset 63 = .ok (.iconst 0, 1) := by decide +kernel
theorem dX5_reset_64 : decode cX5_reset 64 = .ok (.putfield 34, 3) := by decide +kernel
theorem dX5_reset_67 : decode cX5_reset 67 = .ok (.aload_n 0, 1) := by decide +kernel
theorem dX5_reset_68 : decode cX5_reset 68 = .ok (.iconst 0, 1) := by decide +kernel
theorem dX5_reset_69 : decode cX5_reset 69 = .ok (.putfield 38, 3) := by decide +kernel
theorem dX5_reset_72 : decode cX5_reset 72 = .ok (.aload_n 0, 1) := by decide +kernel
theorem dX5_reset_73 : decode cX5_reset 73 = .ok (.iconst 0, 1) := by decide +kernel
theorem dX5_reset_74 : decode cX5_reset 74 = .ok (.putfield 51, 3) := by decide +kernel
theorem dX5_reset_77 : decode cX5_reset 77 = .ok (.aload_n 0, 1) := by decide +kernel
theorem dX5_reset_78 : decode cX5_reset 78 = .ok (.iconst 0, 1) := by decide +kernel
theorem dX5_reset_79 : decode cX5_reset 79 = .ok (.putfield 54, 3) := by decide +kernel
theorem dX5_reset_82 : decode cX5_reset 82 = .ok (.aload_n 0, 1) := by decide +kernel
theorem dX5_reset_83 : decode cX5_reset 83 = .ok (.aload_n 1, 1) := by decide +kernel
theorem dX5_reset_84 : decode cX5_reset 84 = .ok (.getfield 57, 3) := by decide +kernel
theorem dX5_reset_87 : decode cX5_reset 87 = .ok (.putfield 60, 3) := by decide +kernel
theorem dX5_reset_90 : decode cX5_reset 90 = .ok (.aload_n 0, 1) := by decide +kernel
theorem dX5_reset_91 : decode cX5_reset 91 = .ok (.iconst 0, 1) := by decide +kernel
theorem dX5_reset_92 : decode cX5_reset 92 = .ok (.putfield 63, 3) := by decide +kernel
theorem dX5_reset_95 : decode cX5_reset 95 = .ok (.aload_n 0, 1) := by decide +kernel
theorem dX5_reset_96 : decode cX5_reset 96 = .ok (.iconst 0, 1) := by decide +kernel
theorem dX5_reset_97 : decode cX5_reset 97 = .ok (.putfield 66, 3) := by decide +kernel
theorem dX5_reset_100 : decode cX5_reset 100 = .ok (.aload_n 0, 1) := by decide +kernel
theorem dX5_reset_101 : decode cX5_reset 101 = .ok (.iconst 0, 1) := by decide +kernel
theorem dX5_reset_102 : decode cX5_reset 102 = .ok (.putfield 69, 3) := by decide +kernel
theorem dX5_reset_105 : decode cX5_reset 105 = .ok (.return_, 1) := by decide +kernel
theorem dX5_turnKey_0 : decode cX5_turnKey 0 = .ok (.aload_n 0, 1) := by decide +kernel
theorem dX5_turnKey_1 : decode cX5_turnKey 1 = .ok (.iload_n 2, 1) := by decide +kernel
theorem dX5_turnKey_2 : decode cX5_turnKey 2 = .ok (.putfield 38, 3) := by decide +kernel
theorem dX5_turnKey_5 : decode cX5_turnKey 5 = .ok (.iload_n 2, 1) := by decide +kernel
theorem dX5_turnKey_6 : decode cX5_turnKey 6 = .ok (.ifCond .ne 25, 3) := by decide +kernel
theorem dX5_turnKey_9 : decode cX5_turnKey 9 = .ok (.aload_n 0, 1) := by decide +kernel
theorem dX5_turnKey_10 : decode cX5_turnKey 10 = .ok (.aload_n 1, 1) := by decide +kernel
theorem dX5_turnKey_11 : decode cX5_turnKey 11 = .ok (.getfield 57, 3) := by decide +kernel
theorem dX5_turnKey_14 : decode cX5_turnKey 14 = .ok (.putfield 60, 3) := by decide +kernel
theorem dX5_turnKey_17 : decode cX5_turnKey 17 = .ok (.aload_n 0, 1) := by decide +kernel
theorem dX5_turnKey_18 : decode cX5_turnKey 18 = .ok (.getfield 54, 3) := by decide +kernel
theorem dX5_turnKey_21 : decode cX5_turnKey 21 = .ok (.bipush (-4), 2) := by decide +kernel
theorem dX5_turnKey_23 : decode cX5_turnKey 23 = .ok (.if_icmp .ne 8, 3) := by decide +kernel
theorem dX5_turnKey_31 : decode cX5_turnKey 31 = .ok (.return_, 1) := by decide +kernel
theorem dX5_railsThatAre_0 : decode cX5_railsThatAre 0 = .ok (.iconst 0, 1) := by decide +kernel
theorem dX5_railsThatAre_1 : decode cX5_railsThatAre 1 = .ok (.istore_n 2, 1) := by decide +kernel
theorem dX5_railsThatAre_2 : decode cX5_railsThatAre 2 = .ok (.iconst 0, 1) := by decide +kernel
theorem dX5_railsThatAre_3 : decode cX5_railsThatAre 3 = .ok (.istore_n 3, 1) := by decide +kernel
theorem dX5_railsThatAre_4 : decode cX5_railsThatAre 4 = .ok (.iload_n 3, 1) := by decide +kernel
theorem dX5_railsThatAre_5 : decode cX5_railsThatAre 5 = .ok (.bipush 8, 2) := by decide +kernel
theorem dX5_railsThatAre_7 : decode cX5_railsThatAre 7 = .ok (.if_icmp .ge 25, 3) := by decide +kernel
theorem dX5_railsThatAre_10 : decode cX5_railsThatAre 10 = .ok (.aload_n 0, 1) := by decide +kernel
theorem dX5_railsThatAre_11 : decode cX5_railsThatAre 11 = .ok (.getfield 18, 3) := by decide +kernel
theorem dX5_railsThatAre_14 : decode cX5_railsThatAre 14 = .ok (.iload_n 3, 1) := by decide +kernel
theorem dX5_railsThatAre_15 : decode cX5_railsThatAre 15 = .ok (.iaload, 1) := by decide +kernel
theorem dX5_railsThatAre_16 : decode cX5_railsThatAre 16 = .ok (.iload_n 1, 1) := by decide +kernel
theorem dX5_railsThatAre_17 : decode cX5_railsThatAre 17 = .ok (.if_icmp .ne 9, 3) := by decide +kernel
theorem dX5_railsThatAre_26 : decode cX5_railsThatAre 26 = .ok (.iinc 3 1, 3) := by decide +kernel
theorem dX5_railsThatAre_29 : decode cX5_railsThatAre 29 = .ok (.goto (-25), 3) := by decide +kernel
theorem dX5_railsThatAre_32 : decode cX5_railsThatAre 32 = .ok (.iload_n 2, 1) := by decide +kernel
theorem dX5_railsThatAre_33 : decode cX5_railsThatAre 33 = .ok (.ireturn, 1) := by decide +kernel
theorem dX5_passTick_0 : decode cX5_passTick 0 = .ok (.aload_n 0, 1) := by decide +kernel
theorem dX5_passTick_1 : decode cX5_passTick 1 = .ok (.aload_n 1, 1) := by decide +kernel
theorem dX5_passTick_2 : decode cX5_passTick 2 = .ok (.invokevirtual 72, 3) := by decide +kernel
theorem dX5_passTick_5 : decode cX5_passTick 5 = .ok (.aload_n 0, 1) := by decide +kernel
theorem dX5_passTick_6 : decode cX5_passTick 6 = .ok (.aload_n 0, 1) := by decide +kernel
theorem dX5_passTick_7 : decode cX5_passTick 7 = .ok (.aload_n 1, 1) := by decide +kernel
theorem dX5_passTick_8 : decode cX5_passTick 8 = .ok (.invokevirtual 76, 3) := by decide +kernel
theorem dX5_passTick_11 : decode cX5_passTick 11 = .ok (.putfield 66, 3) := by decide +kernel
theorem dX5_passTick_14 : decode cX5_passTick 14 = .ok (.aload_n 0, 1) := by decide +kernel
theorem dX5_passTick_15 : decode cX5_passTick 15 = .ok (.aload_n 0, 1) := by decide +kernel
theorem dX5_passTick_16 : decode cX5_passTick 16 = .ok (.getfield 69, 3) := by decide +kernel
theorem dX5_passTick_19 : decode cX5_passTick 19 = .ok (.aload_n 0, 1) := by decide +kernel
theorem dX5_passTick_20 : decode cX5_passTick 20 = .ok (.getfield 66, 3) := by decide +kernel
theorem dX5_passTick_23 : decode cX5_passTick 23 = .ok (.invokestatic 80, 3) := by decide +kernel
theorem dX5_passTick_26 : decode cX5_passTick 26 = .ok (.putfield 69, 3) := by decide +kernel
theorem dX5_passTick_29 : decode cX5_passTick 29 = .ok (.aload_n 0, 1) := by decide +kernel
theorem dX5_passTick_30 : decode cX5_passTick 30 = .ok (.aload_n 1, 1) := by decide +kernel
theorem dX5_passTick_31 : decode cX5_passTick 31 = .ok (.invokevirtual 85, 3) := by decide +kernel
theorem dX5_passTick_34 : decode cX5_passTick 34 = .ok (.istore_n 2, 1) := by decide +kernel
theorem dX5_passTick_35 : decode cX5_passTick 35 = .ok (.iload_n 2, 1) := by decide +kernel
theorem dX5_passTick_36 : decode cX5_passTick 36 = .ok (.ifCond .eq 14, 3) := by decide +kernel
theorem dX5_passTick_50 : decode cX5_passTick 50 = .ok (.aload_n 0, 1) := by decide +kernel
theorem dX5_passTick_51 : decode cX5_passTick 51 = .ok (.aload_n 1, 1) := by decide +kernel
theorem dX5_passTick_52 : decode cX5_passTick 52 = .ok (.invokevirtual 92, 3) := by decide +kernel
theorem dX5_passTick_55 : decode cX5_passTick 55 = .ok (.return_, 1) := by decide +kernel
theorem dX5_settle_0 : decode cX5_settle 0 = .ok (.iconst 1, 1) := by decide +kernel
theorem dX5_settle_1 : decode cX5_settle 1 = .ok (.istore_n 2, 1) := by decide +kernel
theorem dX5_settle_2 : decode cX5_settle 2 = .ok (.iconst 0, 1) := by decide +kernel
theorem dX5_settle_3 : decode cX5_settle 3 = .ok (.istore_n 3, 1) := by decide +kernel
theorem dX5_settle_4 : decode cX5_settle 4 = .ok (.iload_n 3, 1) := by decide +kernel
theorem dX5_settle_5 : decode cX5_settle 5 = .ok (.sipush 1000, 3) := by decide +kernel
theorem dX5_settle_8 : decode cX5_settle 8 = .ok (.if_icmp .ge 24, 3) := by decide +kernel
theorem dX5_settle_11 : decode cX5_settle 11 = .ok (.iload_n 2, 1) := by decide +kernel
theorem dX5_settle_12 : decode cX5_settle 12 = .ok (.ifCond .eq 20, 3) := by decide +kernel
theorem dX5_settle_15 : decode cX5_settle 15 = .ok (.aload_n 0, 1) := by decide +kernel
theorem dX5_settle_16 : decode cX5_settle 16 = .ok (.aload_n 1, 1) := by decide +kernel
theorem dX5_settle_17 : decode cX5_settle 17 = .ok (.aload_n 0, 1) := by decide +kernel
theorem dX5_settle_18 : decode cX5_settle 18 = .ok (.aload_n 1, 1) := by decide +kernel
theorem dX5_settle_19 : decode cX5_settle 19 = .ok (.invokevirtual 95, 3) := by decide +kernel
theorem dX5_settle_22 : decode cX5_settle 22 = .ok (.invokevirtual 98, 3) := by decide +kernel
theorem dX5_settle_25 : decode cX5_settle 25 = .ok (.istore_n 2, 1) := by decide +kernel
theorem dX5_settle_26 : decode cX5_settle 26 = .ok (.iinc 3 1, 3) := by decide +kernel
theorem dX5_settle_29 : decode cX5_settle 29 = .ok (.goto (-25), 3) := by decide +kernel
theorem dX5_settle_32 : decode cX5_settle 32 = .ok (.return_, 1) := by decide +kernel
theorem dX5_railsThatMay_0 : decode cX5_railsThatMay 0 = .ok (.aload_n 0, 1) := by decide +kernel
theorem dX5_railsThatMay_1 : decode cX5_railsThatMay 1 = .ok (.getfield 54, 3) := by decide +kernel
theorem dX5_railsThatMay_4 : decode cX5_railsThatMay 4 = .ok (.ifCond .eq 5, 3) := by decide +kernel
theorem dX5_railsThatMay_9 : decode cX5_railsThatMay 9 = .ok (.aload_n 0, 1) := by decide +kernel
theorem dX5_railsThatMay_10 : decode cX5_railsThatMay 10 = .ok (.iconst 3, 1) := by decide +kernel
theorem dX5_railsThatMay_11 : decode cX5_railsThatMay 11 = .ok (.invokevirtual 102, 3) := by decide +kernel
theorem dX5_railsThatMay_14 : decode cX5_railsThatMay 14 = .ok (.aload_n 0, 1) := by decide +kernel
theorem dX5_railsThatMay_15 : decode cX5_railsThatMay 15 = .ok (.getfield 38, 3) := by decide +kernel
theorem dX5_railsThatMay_18 : decode cX5_railsThatMay 18 = .ok (.ifCond .eq 9, 3) := by decide +kernel
theorem dX5_railsThatMay_27 : decode cX5_railsThatMay 27 = .ok (.iconst 0, 1) := by decide +kernel
theorem dX5_railsThatMay_28 : decode cX5_railsThatMay 28 = .ok (.ior, 1) := by decide +kernel
theorem dX5_railsThatMay_29 : decode cX5_railsThatMay 29 = .ok (.istore_n 2, 1) := by decide +kernel
theorem dX5_railsThatMay_30 : decode cX5_railsThatMay 30 = .ok (.iconst 0, 1) := by decide +kernel
theorem dX5_railsThatMay_31 : decode cX5_railsThatMay 31 = .ok (.istore_n 3, 1) := by decide +kernel
theorem dX5_railsThatMay_32 : decode cX5_railsThatMay 32 = .ok (.iconst 0, 1) := by decide +kernel
theorem dX5_railsThatMay_33 : decode cX5_railsThatMay 33 = .ok (.istore 4, 2) := by decide +kernel
theorem dX5_railsThatMay_35 : decode cX5_railsThatMay 35 = .ok (.iload 4, 2) := by decide +kernel
theorem dX5_railsThatMay_37 : decode cX5_railsThatMay 37 = .ok (.aload_n 1, 1) := by decide +kernel
theorem dX5_railsThatMay_38 : decode cX5_railsThatMay 38 = .ok (.getfield 106, 3) := by decide +kernel
theorem dX5_railsThatMay_41 : decode cX5_railsThatMay 41 = .ok (.if_icmp .ge 26, 3) := by decide +kernel
theorem dX5_railsThatMay_67 : decode cX5_railsThatMay 67 = .ok (.iload_n 3, 1) := by decide +kernel
theorem dX5_railsThatMay_68 : decode cX5_railsThatMay 68 = .ok (.ireturn, 1) := by decide +kernel
theorem dX5_changeRails_0 : decode cX5_changeRails 0 = .ok (.iconst 0, 1) := by decide +kernel
theorem dX5_changeRails_1 : decode cX5_changeRails 1 = .ok (.istore_n 3, 1) := by decide +kernel
theorem dX5_changeRails_2 : decode cX5_changeRails 2 = .ok (.iconst 0, 1) := by decide +kernel
theorem dX5_changeRails_3 : decode cX5_changeRails 3 = .ok (.istore 4, 2) := by decide +kernel
theorem dX5_changeRails_5 : decode cX5_changeRails 5 = .ok (.iload 4, 2) := by decide +kernel
theorem dX5_changeRails_7 : decode cX5_changeRails 7 = .ok (.aload_n 1, 1) := by decide +kernel
theorem dX5_changeRails_8 : decode cX5_changeRails 8 = .ok (.getfield 106, 3) := by decide +kernel
theorem dX5_changeRails_11 : decode cX5_changeRails 11 = .ok (.if_icmp .ge 55, 3) := by decide +kernel
theorem dX5_changeRails_66 : decode cX5_changeRails 66 = .ok (.iload_n 3, 1) := by decide +kernel
theorem dX5_changeRails_67 : decode cX5_changeRails 67 = .ok (.ireturn, 1) := by decide +kernel
theorem dX5_sumDraw_0 : decode cX5_sumDraw 0 = .ok (.iconst 0, 1) := by decide +kernel
theorem dX5_sumDraw_1 : decode cX5_sumDraw 1 = .ok (.istore_n 2, 1) := by decide +kernel
theorem dX5_sumDraw_2 : decode cX5_sumDraw 2 = .ok (.iconst 0, 1) := by decide +kernel
theorem dX5_sumDraw_3 : decode cX5_sumDraw 3 = .ok (.istore_n 3, 1) := by decide +kernel
theorem dX5_sumDraw_4 : decode cX5_sumDraw 4 = .ok (.iload_n 3, 1) := by decide +kernel
theorem dX5_sumDraw_5 : decode cX5_sumDraw 5 = .ok (.aload_n 1, 1) := by decide +kernel
theorem dX5_sumDraw_6 : decode cX5_sumDraw 6 = .ok (.getfield 106, 3) := by decide +kernel
theorem dX5_sumDraw_9 : decode cX5_sumDraw 9 = .ok (.if_icmp .ge 50, 3) := by decide +kernel
theorem dX5_sumDraw_59 : decode cX5_sumDraw 59 = .ok (.iload_n 2, 1) := by decide +kernel
theorem dX5_sumDraw_60 : decode cX5_sumDraw 60 = .ok (.ireturn, 1) := by decide +kernel
theorem dX5_whyTrip_0 : decode cX5_whyTrip 0 = .ok (.aload_n 0, 1) := by decide +kernel
theorem dX5_whyTrip_1 : decode cX5_whyTrip 1 = .ok (.getfield 66, 3) := by decide +kernel
theorem dX5_whyTrip_4 : decode cX5_whyTrip 4 = .ok (.aload_n 1, 1) := by decide +kernel
theorem dX5_whyTrip_5 : decode cX5_whyTrip 5 = .ok (.getfield 125, 3) := by decide +kernel
theorem dX5_whyTrip_8 : decode cX5_whyTrip 8 = .ok (.if_icmp .le 5, 3) := by decide +kernel
theorem dX5_whyTrip_13 : decode cX5_whyTrip 13 = .ok (.iconst 0, 1) := by decide +kernel
theorem dX5_whyTrip_14 : decode cX5_whyTrip 14 = .ok (.istore_n 2, 1) := by decide +kernel
theorem dX5_whyTrip_15 : decode cX5_whyTrip 15 = .ok (.iload_n 2, 1) := by decide +kernel
theorem dX5_whyTrip_16 : decode cX5_whyTrip 16 = .ok (.aload_n 1, 1) := by decide +kernel
theorem dX5_whyTrip_17 : decode cX5_whyTrip 17 = .ok (.getfield 106, 3) := by decide +kernel
theorem dX5_whyTrip_20 : decode cX5_whyTrip 20 = .ok (.if_icmp .ge 65, 3) := by decide +kernel
theorem dX5_whyTrip_85 : decode cX5_whyTrip 85 = .ok (.iconst 0, 1) := by decide +kernel
theorem dX5_whyTrip_86 : decode cX5_whyTrip 86 = .ok (.ireturn, 1) := by decide +kernel
theorem dX5_growOlder_0 : decode cX5_growOlder 0 = .ok (.iconst 0, 1) := by decide +kernel
theorem dX5_growOlder_1 : decode cX5_growOlder 1 = .ok (.istore_n 2, 1) := by decide +kernel
theorem dX5_growOlder_2 : decode cX5_growOlder 2 = .ok (.iload_n 2, 1) := by decide +kernel
theorem dX5_growOlder_3 : decode cX5_growOlder 3 = .ok (.aload_n 1, 1) := by decide +kernel
theorem dX5_growOlder_4 : decode cX5_growOlder 4 = .ok (.getfield 106, 3) := by decide +kernel
theorem dX5_growOlder_7 : decode cX5_growOlder 7 = .ok (.if_icmp .ge 29, 3) := by decide +kernel
theorem dX5_growOlder_36 : decode cX5_growOlder 36 = .ok (.aload_n 0, 1) := by decide +kernel
theorem dX5_growOlder_37 : decode cX5_growOlder 37 = .ok (.dup, 1) := by decide +kernel
theorem dX5_growOlder_38 : decode cX5_growOlder 38 = .ok (.getfield 51, 3) := by decide +kernel
theorem dX5_growOlder_41 : decode cX5_growOlder 41 = .ok (.iconst 1, 1) := by decide +kernel
theorem dX5_growOlder_42 : decode cX5_growOlder 42 = .ok (.iadd, 1) := by decide +kernel
theorem dX5_growOlder_43 : decode cX5_growOlder 43 = .ok (.putfield 51, 3) := by decide +kernel
theorem dX5_growOlder_46 : decode cX5_growOlder 46 = .ok (.aload_n 0, 1) := by decide +kernel
theorem dX5_growOlder_47 : decode cX5_growOlder 47 = .ok (.getfield 54, 3) := by decide +kernel
theorem dX5_growOlder_50 : decode cX5_growOlder 50 = .ok (.ifCond .le 13, 3) := by decide +kernel
theorem dX5_growOlder_63 : decode cX5_growOlder 63 = .ok (.return_, 1) := by decide +kernel
theorem dX6_init_0 : decode cX6_init 0 = .ok (.aload_n 0, 1) := by decide +kernel
theorem dX6_init_1 : decode cX6_init 1 = .ok (.invokespecial 3, 3) := by decide +kernel
theorem dX6_init_4 : decode cX6_init 4 = .ok (.aload_n 0, 1) := by decide +kernel
theorem dX6_init_5 : decode cX6_init 5 = .ok (.iconst 4, 1) := by decide +kernel
theorem dX6_init_6 : decode cX6_init 6 = .ok (.bipush 40, 2) := by decide +kernel
theorem dX6_init_8 : decode cX6_init 8 = .ok (.multianewarray 11 2, 4) := by decide +kernel
theorem dX6_init_12 : decode cX6_init 12 = .ok (.putfield 13, 3) := by decide +kernel
theorem dX6_init_15 : decode cX6_init 15 = .ok (.aload_n 0, 1) := by decide +kernel
theorem dX6_init_16 : decode cX6_init 16 = .ok (.iconst 4, 1) := by decide +kernel
theorem dX6_init_17 : decode cX6_init 17 = .ok (.newarray .int, 2) := by decide +kernel
theorem dX6_init_19 : decode cX6_init 19 = .ok (.putfield 16, 3) := by decide +kernel
theorem dX6_init_22 : decode cX6_init 22 = .ok (.aload_n 0, 1) := by decide +kernel
theorem dX6_init_23 : decode cX6_init 23 = .ok (.iconst 4, 1) := by decide +kernel
theorem dX6_init_24 : decode cX6_init 24 = .ok (.newarray .int, 2) := by decide +kernel
theorem dX6_init_26 : decode cX6_init 26 = .ok (.putfield 20, 3) := by decide +kernel
theorem dX6_init_29 : decode cX6_init 29 = .ok (.aload_n 0, 1) := by decide +kernel
theorem dX6_init_30 : decode cX6_init 30 = .ok (.getfield 20, 3) := by decide +kernel
theorem dX6_init_33 : decode cX6_init 33 = .ok (.bipush (-4), 2) := by decide +kernel
theorem dX6_init_35 : decode cX6_init 35 = .ok (.invokestatic 23, 3) := by decide +kernel
theorem dX6_init_38 : decode cX6_init 38 = .ok (.return_, 1) := by decide +kernel
theorem dX6_hasPlace_0 : decode cX6_hasPlace 0 = .ok (.iload_n 0, 1) := by decide +kernel
theorem dX6_hasPlace_1 : decode cX6_hasPlace 1 = .ok (.ifCond .lt 12, 3) := by decide +kernel
theorem dX6_hasPlace_4 : decode cX6_hasPlace 4 = .ok (.iload_n 0, 1) := by decide +kernel
theorem dX6_hasPlace_5 : decode cX6_hasPlace 5 = .ok (.iconst 4, 1) := by decide +kernel
theorem dX6_hasPlace_6 : decode cX6_hasPlace 6 = .ok (.if_icmp .ge 7, 3) := by decide +kernel
theorem dX6_hasPlace_9 : decode cX6_hasPlace 9 = .ok (.iconst 1, 1) := by decide +kernel
theorem dX6_hasPlace_10 : decode cX6_hasPlace 10 = .ok (.goto 4, 3) := by decide +kernel
theorem dX6_hasPlace_13 : decode cX6_hasPlace 13 = .ok (.iconst 0, 1) := by decide +kernel
theorem dX6_hasPlace_14 : decode cX6_hasPlace 14 = .ok (.ireturn, 1) := by decide +kernel
theorem dX6_isLane_0 : decode cX6_isLane 0 = .ok (.iload_n 0, 1) := by decide +kernel
theorem dX6_isLane_1 : decode cX6_isLane 1 = .ok (.ifCond .lt 12, 3) := by decide +kernel
theorem dX6_isLane_4 : decode cX6_isLane 4 = .ok (.iload_n 0, 1) := by decide +kernel
theorem dX6_isLane_5 : decode cX6_isLane 5 = .ok (.iconst 2, 1) := by decide +kernel
theorem dX6_isLane_6 : decode cX6_isLane 6 = .ok (.if_icmp .gt 7, 3) := by decide +kernel
theorem dX6_isLane_9 : decode cX6_isLane 9 = .ok (.iconst 1, 1) := by decide +kernel
theorem dX6_isLane_10 : decode cX6_isLane 10 = .ok (.goto 4, 3) := by decide +kernel
theorem dX6_isLane_13 : decode cX6_isLane 13 = .ok (.iconst 0, 1) := by decide +kernel
theorem dX6_isLane_14 : decode cX6_isLane 14 = .ok (.ireturn, 1) := by decide +kernel
theorem dX6_renew_0 : decode cX6_renew 0 = .ok (.aload_n 0, 1) := by decide +kernel
theorem dX6_renew_1 : decode cX6_renew 1 = .ok (.getfield 16, 3) := by decide +kernel
theorem dX6_renew_4 : decode cX6_renew 4 = .ok (.iload_n 1, 1) := by decide +kernel
theorem dX6_renew_5 : decode cX6_renew 5 = .ok (.iload_n 2, 1) := by decide +kernel
theorem dX6_renew_6 : decode cX6_renew 6 = .ok (.iastore, 1) := by decide +kernel
theorem dX6_renew_7 : decode cX6_renew 7 = .ok (.aload_n 0, 1) := by decide +kernel
theorem dX6_renew_8 : decode cX6_renew 8 = .ok (.getfield 20, 3) := by decide +kernel
theorem dX6_renew_11 : decode cX6_renew 11 = .ok (.iload_n 1, 1) := by decide +kernel
theorem dX6_renew_12 : decode cX6_renew 12 = .ok (.iload_n 3, 1) := by decide +kernel
theorem dX6_renew_13 : decode cX6_renew 13 = .ok (.iastore, 1) := by decide +kernel
theorem dX6_renew_14 : decode cX6_renew 14 = .ok (.aload_n 0, 1) := by decide +kernel
theorem dX6_renew_15 : decode cX6_renew 15 = .ok (.getfield 13, 3) := by decide +kernel
theorem dX6_renew_18 : decode cX6_renew 18 = .ok (.iload_n 1, 1) := by decide +kernel
theorem dX6_renew_19 : decode cX6_renew 19 = .ok (.aaload, 1) := by decide +kernel
theorem dX6_renew_20 : decode cX6_renew 20 = .ok (.iconst 0, 1) := by decide +kernel
theorem dX6_renew_21 : decode cX6_renew 21 = .ok (.invokestatic 23, 3) := by decide +kernel
theorem dX6_renew_24 : decode cX6_renew 24 = .ok (.return_, 1) := by decide +kernel
theorem dX7_init_0 : decode cX7_init 0 = .ok (.aload_n 0, 1) := by decide +kernel
theorem dX7_init_1 : decode cX7_init 1 = .ok (.invokespecial 3, 3) := by decide +kernel
theorem dX7_init_4 : decode cX7_init 4 = .ok (.aload_n 0, 1) := by decide +kernel
theorem dX7_init_5 : decode cX7_init 5 = .ok (.aload_n 1, 1) := by decide +kernel
theorem dX7_init_6 : decode cX7_init 6 = .ok (.putfield 9, 3) := by decide +kernel
theorem dX7_init_9 : decode cX7_init 9 = .ok (.aload_n 0, 1) := by decide +kernel
theorem dX7_init_10 : decode cX7_init 10 = .ok (.bipush 8, 2) := by decide +kernel
theorem dX7_init_12 : decode cX7_init 12 = .ok (.newarray .int, 2) := by decide +kernel
theorem dX7_init_14 : decode cX7_init 14 = .ok (.putfield 15, 3) := by decide +kernel
theorem dX7_init_17 : decode cX7_init 17 = .ok (.aload_n 0, 1) := by decide +kernel
theorem dX7_init_18 : decode cX7_init 18 = .ok (.iconst 0, 1) := by decide +kernel
theorem dX7_init_19 : decode cX7_init 19 = .ok (.putfield 19, 3) := by decide +kernel
theorem dX7_init_22 : decode cX7_init 22 = .ok (.aload_n 0, 1) := by decide +kernel
theorem dX7_init_23 : decode cX7_init 23 = .ok (.bipush (-4), 2) := by decide +kernel
theorem dX7_init_25 : decode cX7_init 25 = .ok (.putfield 23, 3) := by decide +kernel
theorem dX7_init_28 : decode cX7_init 28 = .ok (.return_, 1) := by decide +kernel
theorem dX7_findRow_0 : decode cX7_findRow 0 = .ok (.aload_n 0, 1) := by decide +kernel
theorem dX7_findRow_1 : decode cX7_findRow 1 = .ok (.getfield 19, 3) := by decide +kernel
theorem dX7_findRow_4 : decode cX7_findRow 4 = .ok (.ifCond .eq 4, 3) := by decide +kernel
theorem dX7_findRow_8 : decode cX7_findRow 8 = .ok (.aload_n 0, 1) := by decide +kernel
theorem dX7_findRow_9 : decode cX7_findRow 9 = .ok (.iconst 1, 1) := by decide +kernel
theorem dX7_findRow_10 : decode cX7_findRow 10 = .ok (.putfield 19, 3) := by decide +kernel
theorem dX7_findRow_13 : decode cX7_findRow 13 = .ok (.aload_n 0, 1) := by decide +kernel
theorem dX7_findRow_14 : decode cX7_findRow 14 = .ok (.bipush (-4), 2) := by decide +kernel
theorem dX7_findRow_16 : decode cX7_findRow 16 = .ok (.putfield 23, 3) := by decide +kernel
theorem dX7_findRow_19 : decode cX7_findRow 19 = .ok (.aload_n 0, 1) := by decide +kernel
theorem dX7_findRow_20 : decode cX7_findRow 20 = .ok (.getfield 15, 3) := by decide +kernel
theorem dX7_findRow_23 : decode cX7_findRow 23 = .ok (.iconst 0, 1) := by decide +kernel
theorem dX7_findRow_24 : decode cX7_findRow 24 = .ok (.invokestatic 27, 3) := by decide +kernel
theorem dX7_findRow_27 : decode cX7_findRow 27 = .ok (.aload_n 0, 1) := by decide +kernel
theorem dX7_findRow_28 : decode cX7_findRow 28 = .ok (.getfield 9, 3) := by decide +kernel
theorem dX7_findRow_31 : decode cX7_findRow 31 = .ok (.getfield 33, 3) := by decide +kernel
theorem dX7_findRow_34 : decode cX7_findRow 34 = .ok (.iconst 0, 1) := by decide +kernel
theorem dX7_findRow_35 : decode cX7_findRow 35 = .ok (.invokestatic 27, 3) := by decide +kernel
theorem dX7_findRow_38 : decode cX7_findRow 38 = .ok (.aload_n 0, 1) := by decide +kernel
theorem dX7_findRow_39 : decode cX7_findRow 39 = .ok (.getfield 9, 3) := by decide +kernel
theorem dX7_findRow_42 : decode cX7_findRow 42 = .ok (.aload_n 3, 1) := by decide +kernel
theorem dX7_findRow_43 : decode cX7_findRow 43 = .ok (.invokevirtual 38, 3) := by decide +kernel
theorem dX7_findRow_46 : decode cX7_findRow 46 = .ok (.aload_n 0, 1) := by decide +kernel
theorem dX7_findRow_47 : decode cX7_findRow 47 = .ok (.getfield 9, 3) := by decide +kernel
theorem dX7_findRow_50 : decode cX7_findRow 50 = .ok (.aload_n 1, 1) := by decide +kernel
theorem dX7_findRow_51 : decode cX7_findRow 51 = .ok (.iload_n 2, 1) := by decide +kernel
theorem dX7_findRow_52 : decode cX7_findRow 52 = .ok (.invokevirtual 42, 3) := by decide +kernel
theorem dX7_findRow_55 : decode cX7_findRow 55 = .ok (.aload_n 0, 1) := by decide +kernel
theorem dX7_findRow_56 : decode cX7_findRow 56 = .ok (.getfield 9, 3) := by decide +kernel
theorem dX7_findRow_59 : decode cX7_findRow 59 = .ok (.getfield 46, 3) := by decide +kernel
theorem dX7_findRow_62 : decode cX7_findRow 62 = .ok (.istore 4, 2) := by decide +kernel
theorem dX7_findRow_64 : decode cX7_findRow 64 = .ok (.iload 4, 2) := by decide +kernel
theorem dX7_findRow_66 : decode cX7_findRow 66 = .ok (.ifCond .ne 4, 3) := by decide +kernel
theorem dX7_findRow_69 : decode cX7_findRow 69 = .ok (.return_, 1) := by decide +kernel
theorem dX8_init_0 : decode cX8_init 0 = .ok (.aload_n 0, 1) := by decide +kernel
theorem dX8_init_1 : decode cX8_init 1 = .ok (.invokespecial 1, 3) := by decide +kernel
theorem dX8_init_4 : decode cX8_init 4 = .ok (.aload_n 0, 1) := by decide +kernel
theorem dX8_init_5 : decode cX8_init 5 = .ok (.sipush 400, 3) := by decide +kernel
theorem dX8_init_8 : decode cX8_init 8 = .ok (.newarray .int, 2) := by decide +kernel
theorem dX8_init_10 : decode cX8_init 10 = .ok (.putfield 9, 3) := by decide +kernel
theorem dX8_init_13 : decode cX8_init 13 = .ok (.aload_n 0, 1) := by decide +kernel
theorem dX8_init_14 : decode cX8_init 14 = .ok (.iconst 0, 1) := by decide +kernel
theorem dX8_init_15 : decode cX8_init 15 = .ok (.putfield 13, 3) := by decide +kernel
theorem dX8_init_18 : decode cX8_init 18 = .ok (.return_, 1) := by decide +kernel
theorem dX8_push_0 : decode cX8_push 0 = .ok (.aload_n 0, 1) := by decide +kernel
theorem dX8_push_1 : decode cX8_push 1 = .ok (.getfield 13, 3) := by decide +kernel
theorem dX8_push_4 : decode cX8_push 4 = .ok (.bipush 8, 2) := by decide +kernel
theorem dX8_push_6 : decode cX8_push 6 = .ok (.iadd, 1) := by decide +kernel
theorem dX8_push_7 : decode cX8_push 7 = .ok (.sipush 400, 3) := by decide +kernel
theorem dX8_push_10 : decode cX8_push 10 = .ok (.if_icmp .le 5, 3) := by decide +kernel
theorem dX8_push_15 : decode cX8_push 15 = .ok (.bipush 56, 2) := by decide +kernel
theorem dX8_push_17 : decode cX8_push 17 = .ok (.istore_n 3, 1) := by decide +kernel
theorem dX8_push_18 : decode cX8_push 18 = .ok (.iload_n 3, 1) := by decide +kernel
theorem dX8_push_19 : decode cX8_push 19 = .ok (.ifCond .lt 36, 3) := by decide +kernel
theorem dX8_push_22 : decode cX8_push 22 = .ok (.aload_n 0, 1) := by decide +kernel
theorem dX8_push_23 : decode cX8_push 23 = .ok (.getfield 9, 3) := by decide +kernel
theorem dX8_push_26 : decode cX8_push 26 = .ok (.aload_n 0, 1) := by decide +kernel
theorem dX8_push_27 : decode cX8_push 27 = .ok (.getfield 13, 3) := by decide +kernel
theorem dX8_push_30 : decode cX8_push 30 = .ok (.lload_n 1, 1) := by decide +kernel
theorem dX8_push_31 : decode cX8_push 31 = .ok (.iload_n 3, 1) := by decide +kernel
theorem dX8_push_32 : decode cX8_push 32 = .ok (.lushr, 1) := by decide +kernel
theorem dX8_push_33 : decode cX8_push 33 = .ok (.l2i, 1) := by decide +kernel
theorem dX8_push_34 : decode cX8_push 34 = .ok (.sipush 255, 3) := by decide +kernel
theorem dX8_push_37 : decode cX8_push 37 = .ok (.iand, 1) := by decide +kernel
theorem dX8_push_38 : decode cX8_push 38 = .ok (.iastore, 1) := by decide +kernel
theorem dX8_push_39 : decode cX8_push 39 = .ok (.aload_n 0, 1) := by decide +kernel
theorem dX8_push_40 : decode cX8_push 40 = .ok (.dup, 1) := by decide +kernel
theorem dX8_push_41 : decode cX8_push 41 = .ok (.getfield 13, 3) := by decide +kernel
theorem dX8_push_44 : decode cX8_push 44 = .ok (.iconst 1, 1) := by decide +kernel
theorem dX8_push_45 : decode cX8_push 45 = .ok (.iadd, 1) := by decide +kernel
theorem dX8_push_46 : decode cX8_push 46 = .ok (.putfield 13, 3) := by decide +kernel
theorem dX8_push_49 : decode cX8_push 49 = .ok (.iinc 3 (-8), 3) := by decide +kernel
theorem dX8_push_52 : decode cX8_push 52 = .ok (.goto (-34), 3) := by decide +kernel
theorem dX8_push_55 : decode cX8_push 55 = .ok (.iconst 1, 1) := by decide +kernel
theorem dX8_push_56 : decode cX8_push 56 = .ok (.ireturn, 1) := by decide +kernel
theorem dX9_init_0 : decode cX9_init 0 = .ok (.aload_n 0, 1) := by decide +kernel
theorem dX9_init_1 : decode cX9_init 1 = .ok (.invokespecial 3, 3) := by decide +kernel
theorem dX9_init_4 : decode cX9_init 4 = .ok (.aload_n 0, 1) := by decide +kernel
theorem dX9_init_5 : decode cX9_init 5 = .ok (.aload_n 1, 1) := by decide +kernel
theorem dX9_init_6 : decode cX9_init 6 = .ok (.putfield 9, 3) := by decide +kernel
theorem dX9_init_9 : decode cX9_init 9 = .ok (.aload_n 0, 1) := by decide +kernel
theorem dX9_init_10 : decode cX9_init 10 = .ok (.bipush 64, 2) := by decide +kernel
theorem dX9_init_12 : decode cX9_init 12 = .ok (.newarray .int, 2) := by decide +kernel
theorem dX9_init_14 : decode cX9_init 14 = .ok (.putfield 15, 3) := by decide +kernel
theorem dX9_init_17 : decode cX9_init 17 = .ok (.aload_n 0, 1) := by decide +kernel
theorem dX9_init_18 : decode cX9_init 18 = .ok (.bipush 64, 2) := by decide +kernel
theorem dX9_init_20 : decode cX9_init 20 = .ok (.newarray .boolean, 2) := by decide +kernel
theorem dX9_init_22 : decode cX9_init 22 = .ok (.putfield 19, 3) := by decide +kernel
theorem dX9_init_25 : decode cX9_init 25 = .ok (.aload_n 0, 1) := by decide +kernel
theorem dX9_init_26 : decode cX9_init 26 = .ok (.iconst 0, 1) := by decide +kernel
theorem dX9_init_27 : decode cX9_init 27 = .ok (.putfield 23, 3) := by decide +kernel
theorem dX9_init_30 : decode cX9_init 30 = .ok (.return_, 1) := by decide +kernel
theorem dX9_forget_0 : decode cX9_forget 0 = .ok (.aload_n 0, 1) := by decide +kernel
theorem dX9_forget_1 : decode cX9_forget 1 = .ok (.iconst 0, 1) := by decide +kernel
theorem dX9_forget_2 : decode cX9_forget 2 = .ok (.putfield 23, 3) := by decide +kernel
theorem dX9_forget_5 : decode cX9_forget 5 = .ok (.iconst 0, 1) := by decide +kernel
theorem dX9_forget_6 : decode cX9_forget 6 = .ok (.istore_n 1, 1) := by decide +kernel
theorem dX9_forget_7 : decode cX9_forget 7 = .ok (.iload_n 1, 1) := by decide +kernel
theorem dX9_forget_8 : decode cX9_forget 8 = .ok (.bipush 64, 2) := by decide +kernel
theorem dX9_forget_10 : decode cX9_forget 10 = .ok (.if_icmp .ge 16, 3) := by decide +kernel
theorem dX9_forget_13 : decode cX9_forget 13 = .ok (.aload_n 0, 1) := by decide +kernel
theorem dX9_forget_14 : decode cX9_forget 14 = .ok (.getfield 19, 3) := by decide +kernel
theorem dX9_forget_17 : decode cX9_forget 17 = .ok (.iload_n 1, 1) := by decide +kernel
theorem dX9_forget_18 : decode cX9_forget 18 = .ok (.iconst 0, 1) := by decide +kernel
theorem dX9_forget_19 : decode cX9_forget 19 = .ok (.bastore, 1) := by decide +kernel
theorem dX9_forget_20 : decode cX9_forget 20 = .ok (.iinc 1 1, 3) := by decide +kernel
theorem dX9_forget_23 : decode cX9_forget 23 = .ok (.goto (-16), 3) := by decide +kernel
theorem dX9_forget_26 : decode cX9_forget 26 = .ok (.return_, 1) := by decide +kernel
theorem dX10_init_0 : decode cX10_init 0 = .ok (.aload_n 0, 1) := by decide +kernel
theorem dX10_init_1 : decode cX10_init 1 = .ok (.invokespecial 1, 3) := by decide +kernel
theorem dX10_init_4 : decode cX10_init 4 = .ok (.aload_n 0, 1) := by decide +kernel
theorem dX10_init_5 : decode cX10_init 5 = .ok (.new 7, 3) := by decide +kernel
theorem dX10_init_8 : decode cX10_init 8 = .ok (.dup, 1) := by decide +kernel
theorem dX10_init_9 : decode cX10_init 9 = .ok (.invokespecial 9, 3) := by decide +kernel
theorem dX10_init_12 : decode cX10_init 12 = .ok (.putfield 10, 3) := by decide +kernel
theorem dX10_init_15 : decode cX10_init 15 = .ok (.aload_n 0, 1) := by decide +kernel
theorem dX10_init_16 : decode cX10_init 16 = .ok (.new 16, 3) := by decide +kernel
theorem dX10_init_19 : decode cX10_init 19 = .ok (.dup, 1) := by decide +kernel
theorem dX10_init_20 : decode cX10_init 20 = .ok (.invokespecial 18, 3) := by decide +kernel
theorem dX10_init_23 : decode cX10_init 23 = .ok (.putfield 19, 3) := by decide +kernel
theorem dX10_init_26 : decode cX10_init 26 = .ok (.aload_n 0, 1) := by decide +kernel
theorem dX10_init_27 : decode cX10_init 27 = .ok (.new 23, 3) := by decide +kernel
theorem dX10_init_30 : decode cX10_init 30 = .ok (.dup, 1) := by decide +kernel
theorem dX10_init_31 : decode cX10_init 31 = .ok (.invokespecial 25, 3) := by decide +kernel
theorem dX10_init_34 : decode cX10_init 34 = .ok (.putfield 26, 3) := by decide +kernel
theorem dX10_init_37 : decode cX10_init 37 = .ok (.aload_n 0, 1) := by decide +kernel
theorem dX10_init_38 : decode cX10_init 38 = .ok (.new 30, 3) := by decide +kernel
theorem dX10_init_41 : decode cX10_init 41 = .ok (.dup, 1) := by decide +kernel
theorem dX10_init_42 : decode cX10_init 42 = .ok (.aload_n 0, 1) := by decide +kernel
theorem dX10_init_43 : decode cX10_init 43 = .ok (.getfield 26, 3) := by decide +kernel
theorem dX10_init_46 : decode cX10_init 46 = .ok (.invokespecial 32, 3) := by decide +kernel
theorem dX10_init_49 : decode cX10_init 49 = .ok (.putfield 35, 3) := by decide +kernel
theorem dX10_init_52 : decode cX10_init 52 = .ok (.aload_n 0, 1) := by decide +kernel
theorem dX10_init_53 : decode cX10_init 53 = .ok (.new 39, 3) := by decide +kernel
theorem dX10_init_56 : decode cX10_init 56 = .ok (.dup, 1) := by decide +kernel
theorem dX10_init_57 : decode cX10_init 57 = .ok (.aload_n 0, 1) := by decide +kernel
theorem dX10_init_58 : decode cX10_init 58 = .ok (.getfield 26, 3) := by decide +kernel
theorem dX10_init_61 : decode cX10_init 61 = .ok (.invokespecial 41, 3) := by decide +kernel
theorem dX10_init_64 : decode cX10_init 64 = .ok (.putfield 42, 3) := by decide +kernel
theorem dX10_init_67 : decode cX10_init 67 = .ok (.aload_n 0, 1) := by decide +kernel
theorem dX10_init_68 : decode cX10_init 68 = .ok (.new 46, 3) := by decide +kernel
theorem dX10_init_71 : decode cX10_init 71 = .ok (.dup, 1) := by decide +kernel
theorem dX10_init_72 : decode cX10_init 72 = .ok (.invokespecial 48, 3) := by decide +kernel
theorem dX10_init_75 : decode cX10_init 75 = .ok (.putfield 49, 3) := by decide +kernel
theorem dX10_init_78 : decode cX10_init 78 = .ok (.aload_n 0, 1) := by decide +kernel
theorem dX10_init_79 : decode cX10_init 79 = .ok (.new 53, 3) := by decide +kernel
theorem dX10_init_82 : decode cX10_init 82 = .ok (.dup, 1) := by decide +kernel
theorem dX10_init_83 : decode cX10_init 83 = .ok (.invokespecial 55, 3) := by decide +kernel
theorem dX10_init_86 : decode cX10_init 86 = .ok (.putfield 56, 3) := by decide +kernel
theorem dX10_init_89 : decode cX10_init 89 = .ok (.aload_n 0, 1) := by decide +kernel
theorem dX10_init_90 : decode cX10_init 90 = .ok (.new 53, 3) := by decide +kernel
theorem dX10_init_93 : decode cX10_init 93 = .ok (.dup, 1) := by decide +kernel
theorem dX10_init_94 : decode cX10_init 94 = .ok (.invokespecial 55, 3) := by decide +kernel
theorem dX10_init_97 : decode cX10_init 97 = .ok (.putfield 60, 3) := by decide +kernel
theorem dX10_init_100 : decode cX10_init 100 = .ok (.aload_n 0, 1) := by decide +kernel
theorem dX10_init_101 : decode cX10_init 101 = .ok (.new 63, 3) := by decide +kernel
theorem dX10_init_104 : decode cX10_init 104 = .ok (.dup, 1) := by decide +kernel
theorem dX10_init_105 : decode cX10_init 105 = .ok (.aload_n 0, 1) := by decide +kernel
theorem dX10_init_106 : decode cX10_init 106 = .ok (.getfield 10, 3) := by decide +kernel
theorem dX10_init_109 : decode cX10_init 109 = .ok (.aload_n 0, 1) := by decide +kernel
theorem dX10_init_110 : decode cX10_init 110 = .ok (.getfield 60, 3) := by decide +kernel
theorem dX10_init_113 : decode cX10_init 113 = .ok (.invokespecial 65, 3) := by decide +kernel
theorem dX10_init_116 : decode cX10_init 116 = .ok (.putfield 68, 3) := by decide +kernel
theorem dX10_init_119 : decode cX10_init 119 = .ok (.aload_n 0, 1) := by decide +kernel
theorem dX10_init_120 : decode cX10_init 120 = .ok (.iconst 0, 1) := by decide +kernel
theorem dX10_init_121 : decode cX10_init 121 = .ok (.putfield 72, 3) := by decide +kernel
theorem dX10_init_124 : decode cX10_init 124 = .ok (.return_, 1) := by decide +kernel
theorem dX10_feed_0 : decode cX10_feed 0 = .ok (.aload_n 0, 1) := by decide +kernel
theorem dX10_feed_1 : decode cX10_feed 1 = .ok (.getfield 10, 3) := by decide +kernel
theorem dX10_feed_4 : decode cX10_feed 4 = .ok (.lload_n 1, 1) := by decide +kernel
theorem dX10_feed_5 : decode cX10_feed 5 = .ok (.invokevirtual 76, 3) := by decide +kernel
theorem dX10_feed_8 : decode cX10_feed 8 = .ok (.ifCond .eq 13, 3) := by decide +kernel
theorem dX10_feed_11 : decode cX10_feed 11 = .ok (.aload_n 0, 1) := by decide +kernel
theorem dX10_feed_12 : decode cX10_feed 12 = .ok (.getfield 10, 3) := by decide +kernel
theorem dX10_feed_15 : decode cX10_feed 15 = .ok (.getfield 80, 3) := by decide +kernel
theorem dX10_feed_18 : decode cX10_feed 18 = .ok (.goto 5, 3) := by decide +kernel
theorem dX10_feed_23 : decode cX10_feed 23 = .ok (.ireturn, 1) := by decide +kernel
theorem dX10_end_0 : decode cX10_end 0 = .ok (.iload_n 1, 1) := by decide +kernel
theorem dX10_end_1 : decode cX10_end 1 = .ok (.ifCond .lt 14, 3) := by decide +kernel
theorem dX10_end_4 : decode cX10_end 4 = .ok (.iload_n 1, 1) := by decide +kernel
theorem dX10_end_5 : decode cX10_end 5 = .ok (.aload_n 0, 1) := by decide +kernel
theorem dX10_end_6 : decode cX10_end 6 = .ok (.getfield 10, 3) := by decide +kernel
theorem dX10_end_9 : decode cX10_end 9 = .ok (.getfield 80, 3) := by decide +kernel
theorem dX10_end_12 : decode cX10_end 12 = .ok (.if_icmp .le 5, 3) := by decide +kernel
theorem dX10_end_15 : decode cX10_end 15 = .ok (.iconst (-1), 1) := by decide +kernel
theorem dX10_end_16 : decode cX10_end 16 = .ok (.ireturn, 1) := by decide +kernel
theorem dX10_end_17 : decode cX10_end 17 = .ok (.aload_n 0, 1) := by decide +kernel
theorem dX10_end_18 : decode cX10_end 18 = .ok (.getfield 10, 3) := by decide +kernel
theorem dX10_end_21 : decode cX10_end 21 = .ok (.getfield 80, 3) := by decide +kernel
theorem dX10_end_24 : decode cX10_end 24 = .ok (.istore_n 2, 1) := by decide +kernel
theorem dX10_end_25 : decode cX10_end 25 = .ok (.aload_n 0, 1) := by decide +kernel
theorem dX10_end_26 : decode cX10_end 26 = .ok (.getfield 10, 3) := by decide +kernel
theorem dX10_end_29 : decode cX10_end 29 = .ok (.iload_n 1, 1) := by decide +kernel
theorem dX10_end_30 : decode cX10_end 30 = .ok (.putfield 80, 3) := by decide +kernel
theorem dX10_end_33 : decode cX10_end 33 = .ok (.iload_n 2, 1) := by decide +kernel
theorem dX10_end_34 : decode cX10_end 34 = .ok (.ireturn, 1) := by decide +kernel
theorem dX10_text_0 : decode cX10_text 0 = .ok (.aload_n 0, 1) := by decide +kernel
theorem dX10_text_1 : decode cX10_text 1 = .ok (.getfield 68, 3) := by decide +kernel
theorem dX10_text_4 : decode cX10_text 4 = .ok (.aload_n 0, 1) := by decide +kernel
theorem dX10_text_5 : decode cX10_text 5 = .ok (.getfield 60, 3) := by decide +kernel
theorem dX10_text_8 : decode cX10_text 8 = .ok (.invokevirtual 83, 3) := by decide +kernel
theorem dX10_text_11 : decode cX10_text 11 = .ok (.istore_n 1, 1) := by decide +kernel
theorem dX10_text_12 : decode cX10_text 12 = .ok (.aload_n 0, 1) := by decide +kernel
theorem dX10_text_13 : decode cX10_text 13 = .ok (.getfield 10, 3) := by decide +kernel
theorem dX10_text_16 : decode cX10_text 16 = .ok (.iconst 0, 1) := by decide +kernel
theorem dX10_text_17 : decode cX10_text 17 = .ok (.putfield 80, 3) := by decide +kernel
theorem dX10_text_20 : decode cX10_text 20 = .ok (.aload_n 0, 1) := by decide +kernel
theorem dX10_text_21 : decode cX10_text 21 = .ok (.aload_n 0, 1) := by decide +kernel
theorem dX10_text_22 : decode cX10_text 22 = .ok (.getfield 68, 3) := by decide +kernel
theorem dX10_text_25 : decode cX10_text 25 = .ok (.getfield 87, 3) := by decide +kernel
theorem dX10_text_28 : decode cX10_text 28 = .ok (.putfield 72, 3) := by decide +kernel
theorem dX10_text_31 : decode cX10_text 31 = .ok (.aload_n 0, 1) := by decide +kernel
theorem dX10_text_32 : decode cX10_text 32 = .ok (.getfield 68, 3) := by decide +kernel
theorem dX10_text_35 : decode cX10_text 35 = .ok (.getfield 87, 3) := by decide +kernel
theorem dX10_text_38 : decode cX10_text 38 = .ok (.ifCond .eq 14, 3) := by decide +kernel
theorem dX10_text_52 : decode cX10_text 52 = .ok (.aload_n 0, 1) := by decide +kernel
theorem dX10_text_53 : decode cX10_text 53 = .ok (.getfield 56, 3) := by decide +kernel
theorem dX10_text_56 : decode cX10_text 56 = .ok (.astore_n 2, 1) := by decide +kernel
theorem dX10_text_57 : decode cX10_text 57 = .ok (.aload_n 0, 1) := by decide +kernel
theorem dX10_text_58 : decode cX10_text 58 = .ok (.aload_n 0, 1) := by decide +kernel
theorem dX10_text_59 : decode cX10_text 59 = .ok (.getfield 60, 3) := by decide +kernel
theorem dX10_text_62 : decode cX10_text 62 = .ok (.putfield 56, 3) := by decide +kernel
theorem dX10_text_65 : decode cX10_text 65 = .ok (.aload_n 0, 1) := by decide +kernel
theorem dX10_text_66 : decode cX10_text 66 = .ok (.aload_n 2, 1) := by decide +kernel
theorem dX10_text_67 : decode cX10_text 67 = .ok (.putfield 60, 3) := by decide +kernel
theorem dX10_text_70 : decode cX10_text 70 = .ok (.aload_n 0, 1) := by decide +kernel
theorem dX10_text_71 : decode cX10_text 71 = .ok (.getfield 19, 3) := by decide +kernel
theorem dX10_text_74 : decode cX10_text 74 = .ok (.aload_n 0, 1) := by decide +kernel
theorem dX10_text_75 : decode cX10_text 75 = .ok (.getfield 56, 3) := by decide +kernel
theorem dX10_text_78 : decode cX10_text 78 = .ok (.invokevirtual 93, 3) := by decide +kernel
theorem dX10_text_81 : decode cX10_text 81 = .ok (.aload_n 0, 1) := by decide +kernel
theorem dX10_text_82 : decode cX10_text 82 = .ok (.invokevirtual 97, 3) := by decide +kernel
theorem dX10_text_85 : decode cX10_text 85 = .ok (.iload_n 1, 1) := by decide +kernel
theorem dX10_text_86 : decode cX10_text 86 = .ok (.ireturn, 1) := by decide +kernel
theorem dX10_fault_0 : decode cX10_fault 0 = .ok (.aload_n 0, 1) := by decide +kernel
theorem dX10_fault_1 : decode cX10_fault 1 = .ok (.getfield 72, 3) := by decide +kernel
theorem dX10_fault_4 : decode cX10_fault 4 = .ok (.ireturn, 1) := by decide +kernel
theorem dX10_rail_0 : decode cX10_rail 0 = .ok (.aload_n 0, 1) := by decide +kernel
theorem dX10_rail_1 : decode cX10_rail 1 = .ok (.getfield 56, 3) := by decide +kernel
theorem dX10_rail_4 : decode cX10_rail 4 = .ok (.iload_n 1, 1) := by decide +kernel
theorem dX10_rail_5 : decode cX10_rail 5 = .ok (.invokevirtual 100, 3) := by decide +kernel
theorem dX10_rail_8 : decode cX10_rail 8 = .ok (.ifCond .eq 13, 3) := by decide +kernel
theorem dX10_rail_21 : decode cX10_rail 21 = .ok (.iconst (-1), 1) := by decide +kernel
theorem dX10_rail_22 : decode cX10_rail 22 = .ok (.ireturn, 1) := by decide +kernel
theorem dX10_rule_0 : decode cX10_rule 0 = .ok (.iload_n 1, 1) := by decide +kernel
theorem dX10_rule_1 : decode cX10_rule 1 = .ok (.tableswitch 63 0 3 #[31, 39, 47, 55], 31) := by decide +kernel
theorem dX10_rule_32 : decode cX10_rule 32 = .ok (.aload_n 0, 1) := by decide +kernel
theorem dX10_rule_33 : decode cX10_rule 33 = .ok (.getfield 56, 3) := by decide +kernel
theorem dX10_rule_36 : decode cX10_rule 36 = .ok (.getfield 108, 3) := by decide +kernel
theorem dX10_rule_39 : decode cX10_rule 39 = .ok (.ireturn, 1) := by decide +kernel
theorem dX10_rule_40 : decode cX10_rule 40 = .ok (.aload_n 0, 1) := by decide +kernel
theorem dX10_rule_41 : decode cX10_rule 41 = .ok (.getfield 56, 3) := by decide +kernel
theorem dX10_rule_44 : decode cX10_rule 44 = .ok (.getfield 111, 3) := by decide +kernel
theorem dX10_rule_47 : decode cX10_rule 47 = .ok (.ireturn, 1) := by decide +kernel
theorem dX10_rule_48 : decode cX10_rule 48 = .ok (.aload_n 0, 1) := by decide +kernel
theorem dX10_rule_49 : decode cX10_rule 49 = .ok (.getfield 56, 3) := by decide +kernel
theorem dX10_rule_52 : decode cX10_rule 52 = .ok (.getfield 114, 3) := by decide +kernel
theorem dX10_rule_55 : decode cX10_rule 55 = .ok (.ireturn, 1) := by decide +kernel
theorem dX10_rule_56 : decode cX10_rule 56 = .ok (.aload_n 0, 1) := by decide +kernel
theorem dX10_rule_57 : decode cX10_rule 57 = .ok (.getfield 56, 3) := by decide +kernel
theorem dX10_rule_60 : decode cX10_rule 60 = .ok (.getfield 117, 3) := by decide +kernel
theorem dX10_rule_63 : decode cX10_rule 63 = .ok (.ireturn, 1) := by decide +kernel
theorem dX10_rule_64 : decode cX10_rule 64 = .ok (.iconst (-1), 1) := by decide +kernel
theorem dX10_rule_65 : decode cX10_rule 65 = .ok (.ireturn, 1) := by decide +kernel
theorem dX10_holds_0 : decode cX10_holds 0 = .ok (.aload_n 0, 1) := by decide +kernel
theorem dX10_holds_1 : decode cX10_holds 1 = .ok (.getfield 56, 3) := by decide +kernel
theorem dX10_holds_4 : decode cX10_holds 4 = .ok (.iload_n 1, 1) := by decide +kernel
theorem dX10_holds_5 : decode cX10_holds 5 = .ok (.invokevirtual 100, 3) := by decide +kernel
theorem dX10_holds_8 : decode cX10_holds 8 = .ok (.ifCond .eq 21, 3) := by decide +kernel
theorem dX10_holds_29 : decode cX10_holds 29 = .ok (.iconst (-1), 1) := by decide +kernel
theorem dX10_holds_30 : decode cX10_holds 30 = .ok (.ireturn, 1) := by decide +kernel
theorem dX10_words_0 : decode cX10_words 0 = .ok (.aload_n 0, 1) := by decide +kernel
theorem dX10_words_1 : decode cX10_words 1 = .ok (.getfield 56, 3) := by decide +kernel
theorem dX10_words_4 : decode cX10_words 4 = .ok (.iload_n 1, 1) := by decide +kernel
theorem dX10_words_5 : decode cX10_words 5 = .ok (.invokevirtual 100, 3) := by decide +kernel
theorem dX10_words_8 : decode cX10_words 8 = .ok (.ifCond .eq 13, 3) := by decide +kernel
theorem dX10_words_21 : decode cX10_words 21 = .ok (.iconst (-1), 1) := by decide +kernel
theorem dX10_words_22 : decode cX10_words 22 = .ok (.ireturn, 1) := by decide +kernel
theorem dX10_key_0 : decode cX10_key 0 = .ok (.aload_n 0, 1) := by decide +kernel
theorem dX10_key_1 : decode cX10_key 1 = .ok (.getfield 19, 3) := by decide +kernel
theorem dX10_key_4 : decode cX10_key 4 = .ok (.getfield 139, 3) := by decide +kernel
theorem dX10_key_7 : decode cX10_key 7 = .ok (.invokestatic 128, 3) := by decide +kernel
theorem dX10_key_10 : decode cX10_key 10 = .ok (.istore_n 2, 1) := by decide +kernel
theorem dX10_key_11 : decode cX10_key 11 = .ok (.aload_n 0, 1) := by decide +kernel
theorem dX10_key_12 : decode cX10_key 12 = .ok (.getfield 19, 3) := by decide +kernel
theorem dX10_key_15 : decode cX10_key 15 = .ok (.aload_n 0, 1) := by decide +kernel
theorem dX10_key_16 : decode cX10_key 16 = .ok (.getfield 56, 3) := by decide +kernel
theorem dX10_key_19 : decode cX10_key 19 = .ok (.iload_n 1, 1) := by decide +kernel
theorem dX10_key_20 : decode cX10_key 20 = .ok (.invokevirtual 143, 3) := by decide +kernel
theorem dX10_key_23 : decode cX10_key 23 = .ok (.iload_n 2, 1) := by decide +kernel
theorem dX10_key_24 : decode cX10_key 24 = .ok (.ireturn, 1) := by decide +kernel
theorem dX10_dead_0 : decode cX10_dead 0 = .ok (.aload_n 0, 1) := by decide +kernel
theorem dX10_dead_1 : decode cX10_dead 1 = .ok (.getfield 56, 3) := by decide +kernel
theorem dX10_dead_4 : decode cX10_dead 4 = .ok (.iload_n 1, 1) := by decide +kernel
theorem dX10_dead_5 : decode cX10_dead 5 = .ok (.invokevirtual 100, 3) := by decide +kernel
theorem dX10_dead_8 : decode cX10_dead 8 = .ok (.ifCond .ne 5, 3) := by decide +kernel
theorem dX10_dead_11 : decode cX10_dead 11 = .ok (.iconst (-1), 1) := by decide +kernel
theorem dX10_dead_12 : decode cX10_dead 12 = .ok (.ireturn, 1) := by decide +kernel
theorem dX10_time_0 : decode cX10_time 0 = .ok (.aload_n 0, 1) := by decide +kernel
theorem dX10_time_1 : decode cX10_time 1 = .ok (.getfield 56, 3) := by decide +kernel
theorem dX10_time_4 : decode cX10_time 4 = .ok (.iload_n 1, 1) := by decide +kernel
theorem dX10_time_5 : decode cX10_time 5 = .ok (.invokevirtual 100, 3) := by decide +kernel
theorem dX10_time_8 : decode cX10_time 8 = .ok (.ifCond .eq 29, 3) := by decide +kernel
theorem dX10_time_37 : decode cX10_time 37 = .ok (.iconst (-1), 1) := by decide +kernel
theorem dX10_time_38 : decode cX10_time 38 = .ok (.ireturn, 1) := by decide +kernel
theorem dX10_go_0 : decode cX10_go 0 = .ok (.iload_n 1, 1) := by decide +kernel
theorem dX10_go_1 : decode cX10_go 1 = .ok (.iconst 1, 1) := by decide +kernel
theorem dX10_go_2 : decode cX10_go 2 = .ok (.if_icmp .lt 10, 3) := by decide +kernel
theorem dX10_go_5 : decode cX10_go 5 = .ok (.iload_n 1, 1) := by decide +kernel
theorem dX10_go_6 : decode cX10_go 6 = .ok (.sipush 999, 3) := by decide +kernel
theorem dX10_go_9 : decode cX10_go 9 = .ok (.if_icmp .le 5, 3) := by decide +kernel
theorem dX10_go_12 : decode cX10_go 12 = .ok (.iconst (-1), 1) := by decide +kernel
theorem dX10_go_13 : decode cX10_go 13 = .ok (.ireturn, 1) := by decide +kernel
theorem dX10_go_14 : decode cX10_go 14 = .ok (.aload_n 0, 1) := by decide +kernel
theorem dX10_go_15 : decode cX10_go 15 = .ok (.getfield 19, 3) := by decide +kernel
theorem dX10_go_18 : decode cX10_go 18 = .ok (.getfield 154, 3) := by decide +kernel
theorem dX10_go_21 : decode cX10_go 21 = .ok (.istore_n 2, 1) := by decide +kernel
theorem dX10_go_22 : decode cX10_go 22 = .ok (.iconst 0, 1) := by decide +kernel
theorem dX10_go_23 : decode cX10_go 23 = .ok (.istore_n 3, 1) := by decide +kernel
theorem dX10_go_24 : decode cX10_go 24 = .ok (.iload_n 3, 1) := by decide +kernel
theorem dX10_go_25 : decode cX10_go 25 = .ok (.iload_n 1, 1) := by decide +kernel
theorem dX10_go_26 : decode cX10_go 26 = .ok (.if_icmp .ge 20, 3) := by decide +kernel
theorem dX10_go_29 : decode cX10_go 29 = .ok (.aload_n 0, 1) := by decide +kernel
theorem dX10_go_30 : decode cX10_go 30 = .ok (.getfield 19, 3) := by decide +kernel
theorem dX10_go_33 : decode cX10_go 33 = .ok (.aload_n 0, 1) := by decide +kernel
theorem dX10_go_34 : decode cX10_go 34 = .ok (.getfield 56, 3) := by decide +kernel
theorem dX10_go_37 : decode cX10_go 37 = .ok (.invokevirtual 157, 3) := by decide +kernel
theorem dX10_go_40 : decode cX10_go 40 = .ok (.iinc 3 1, 3) := by decide +kernel
theorem dX10_go_43 : decode cX10_go 43 = .ok (.goto (-19), 3) := by decide +kernel
theorem dX10_go_46 : decode cX10_go 46 = .ok (.aload_n 0, 1) := by decide +kernel
theorem dX10_go_47 : decode cX10_go 47 = .ok (.getfield 19, 3) := by decide +kernel
theorem dX10_go_50 : decode cX10_go 50 = .ok (.getfield 154, 3) := by decide +kernel
theorem dX10_go_53 : decode cX10_go 53 = .ok (.iload_n 2, 1) := by decide +kernel
theorem dX10_go_54 : decode cX10_go 54 = .ok (.isub, 1) := by decide +kernel
theorem dX10_go_55 : decode cX10_go 55 = .ok (.ireturn, 1) := by decide +kernel
theorem dX10_now_0 : decode cX10_now 0 = .ok (.iload_n 1, 1) := by decide +kernel
theorem dX10_now_1 : decode cX10_now 1 = .ok (.tableswitch 128 0 8 #[51, 59, 68, 77, 85, 93, 101, 109, 120], 51) := by decide +kernel
theorem dX10_now_52 : decode cX10_now 52 = .ok (.aload_n 0, 1) := by decide +kernel
theorem dX10_now_53 : decode cX10_now 53 = .ok (.getfield 19, 3) := by decide +kernel
theorem dX10_now_56 : decode cX10_now 56 = .ok (.getfield 160, 3) := by decide +kernel
theorem dX10_now_59 : decode cX10_now 59 = .ok (.ireturn, 1) := by decide +kernel
theorem dX10_now_60 : decode cX10_now 60 = .ok (.aload_n 0, 1) := by decide +kernel
theorem dX10_now_61 : decode cX10_now 61 = .ok (.getfield 19, 3) := by decide +kernel
theorem dX10_now_64 : decode cX10_now 64 = .ok (.iconst 3, 1) := by decide +kernel
theorem dX10_now_65 : decode cX10_now 65 = .ok (.invokevirtual 163, 3) := by decide +kernel
theorem dX10_now_68 : decode cX10_now 68 = .ok (.ireturn, 1) := by decide +kernel
theorem dX10_now_69 : decode cX10_now 69 = .ok (.aload_n 0, 1) := by decide +kernel
theorem dX10_now_70 : decode cX10_now 70 = .ok (.getfield 19, 3) := by decide +kernel
theorem dX10_now_73 : decode cX10_now 73 = .ok (.iconst 2, 1) := by decide +kernel
theorem dX10_now_74 : decode cX10_now 74 = .ok (.invokevirtual 163, 3) := by decide +kernel
theorem dX10_now_77 : decode cX10_now 77 = .ok (.ireturn, 1) := by decide +kernel
theorem dX10_now_78 : decode cX10_now 78 = .ok (.aload_n 0, 1) := by decide +kernel
theorem dX10_now_79 : decode cX10_now 79 = .ok (.getfield 19, 3) := by decide +kernel
theorem dX10_now_82 : decode cX10_now 82 = .ok (.getfield 166, 3) := by decide +kernel
theorem dX10_now_85 : decode cX10_now 85 = .ok (.ireturn, 1) := by decide +kernel
theorem dX10_now_86 : decode cX10_now 86 = .ok (.aload_n 0, 1) := by decide +kernel
theorem dX10_now_87 : decode cX10_now 87 = .ok (.getfield 19, 3) := by decide +kernel
theorem dX10_now_90 : decode cX10_now 90 = .ok (.getfield 169, 3) := by decide +kernel
theorem dX10_now_93 : decode cX10_now 93 = .ok (.ireturn, 1) := by decide +kernel
theorem dX10_now_94 : decode cX10_now 94 = .ok (.aload_n 0, 1) := by decide +kernel
theorem dX10_now_95 : decode cX10_now 95 = .ok (.getfield 19, 3) := by decide +kernel
theorem dX10_now_98 : decode cX10_now 98 = .ok (.getfield 172, 3) := by decide +kernel
theorem dX10_now_101 : decode cX10_now 101 = .ok (.ireturn, 1) := by decide +kernel
theorem dX10_now_102 : decode cX10_now 102 = .ok (.aload_n 0, 1) := by decide +kernel
theorem dX10_now_103 : decode cX10_now 103 = .ok (.getfield 19, 3) := by decide +kernel
theorem dX10_now_106 : decode cX10_now 106 = .ok (.getfield 175, 3) := by decide +kernel
theorem dX10_now_109 : decode cX10_now 109 = .ok (.ireturn, 1) := by decide +kernel
theorem dX10_now_110 : decode cX10_now 110 = .ok (.aload_n 0, 1) := by decide +kernel
theorem dX10_now_111 : decode cX10_now 111 = .ok (.getfield 19, 3) := by decide +kernel
theorem dX10_now_114 : decode cX10_now 114 = .ok (.getfield 139, 3) := by decide +kernel
theorem dX10_now_117 : decode cX10_now 117 = .ok (.invokestatic 128, 3) := by decide +kernel
theorem dX10_now_120 : decode cX10_now 120 = .ok (.ireturn, 1) := by decide +kernel
theorem dX10_now_121 : decode cX10_now 121 = .ok (.aload_n 0, 1) := by decide +kernel
theorem dX10_now_122 : decode cX10_now 122 = .ok (.getfield 19, 3) := by decide +kernel
theorem dX10_now_125 : decode cX10_now 125 = .ok (.getfield 154, 3) := by decide +kernel
theorem dX10_now_128 : decode cX10_now 128 = .ok (.ireturn, 1) := by decide +kernel
theorem dX10_now_129 : decode cX10_now 129 = .ok (.bipush (-9), 2) := by decide +kernel
theorem dX10_now_131 : decode cX10_now 131 = .ok (.ireturn, 1) := by decide +kernel
theorem dX10_is_0 : decode cX10_is 0 = .ok (.aload_n 0, 1) := by decide +kernel
theorem dX10_is_1 : decode cX10_is 1 = .ok (.getfield 56, 3) := by decide +kernel
theorem dX10_is_4 : decode cX10_is 4 = .ok (.iload_n 1, 1) := by decide +kernel
theorem dX10_is_5 : decode cX10_is 5 = .ok (.invokevirtual 100, 3) := by decide +kernel
theorem dX10_is_8 : decode cX10_is 8 = .ok (.ifCond .ne 5, 3) := by decide +kernel
theorem dX10_is_11 : decode cX10_is 11 = .ok (.iconst (-1), 1) := by decide +kernel
theorem dX10_is_12 : decode cX10_is 12 = .ok (.ireturn, 1) := by decide +kernel
theorem dX10_happened_0 : decode cX10_happened 0 = .ok (.iload_n 1, 1) := by decide +kernel
theorem dX10_happened_1 : decode cX10_happened 1 = .ok (.ifCond .lt 17, 3) := by decide +kernel
theorem dX10_happened_4 : decode cX10_happened 4 = .ok (.iload_n 1, 1) := by decide +kernel
theorem dX10_happened_5 : decode cX10_happened 5 = .ok (.aload_n 0, 1) := by decide +kernel
theorem dX10_happened_6 : decode cX10_happened 6 = .ok (.getfield 19, 3) := by decide +kernel
theorem dX10_happened_9 : decode cX10_happened 9 = .ok (.getfield 187, 3) := by decide +kernel
theorem dX10_happened_12 : decode cX10_happened 12 = .ok (.getfield 191, 3) := by decide +kernel
theorem dX10_happened_15 : decode cX10_happened 15 = .ok (.if_icmp .lt 5, 3) := by decide +kernel
theorem dX10_happened_18 : decode cX10_happened 18 = .ok (.iconst (-1), 1) := by decide +kernel
theorem dX10_happened_19 : decode cX10_happened 19 = .ok (.ireturn, 1) := by decide +kernel
theorem dX10_up_0 : decode cX10_up 0 = .ok (.aload_n 0, 1) := by decide +kernel
theorem dX10_up_1 : decode cX10_up 1 = .ok (.getfield 56, 3) := by decide +kernel
theorem dX10_up_4 : decode cX10_up 4 = .ok (.invokevirtual 120, 3) := by decide +kernel
theorem dX10_up_7 : decode cX10_up 7 = .ok (.istore_n 2, 1) := by decide +kernel
theorem dX10_up_8 : decode cX10_up 8 = .ok (.iload_n 2, 1) := by decide +kernel
theorem dX10_up_9 : decode cX10_up 9 = .ok (.aload_n 0, 1) := by decide +kernel
theorem dX10_up_10 : decode cX10_up 10 = .ok (.getfield 19, 3) := by decide +kernel
theorem dX10_up_13 : decode cX10_up 13 = .ok (.getfield 147, 3) := by decide +kernel
theorem dX10_up_16 : decode cX10_up 16 = .ok (.iconst (-1), 1) := by decide +kernel
theorem dX10_up_17 : decode cX10_up 17 = .ok (.ixor, 1) := by decide +kernel
theorem dX10_up_18 : decode cX10_up 18 = .ok (.iand, 1) := by decide +kernel
theorem dX10_up_19 : decode cX10_up 19 = .ok (.istore_n 3, 1) := by decide +kernel
theorem dX10_up_20 : decode cX10_up 20 = .ok (.iload_n 1, 1) := by decide +kernel
theorem dX10_up_21 : decode cX10_up 21 = .ok (.tableswitch 62 0 2 #[27, 36, 49], 27) := by decide +kernel
theorem dX10_up_48 : decode cX10_up 48 = .ok (.aload_n 0, 1) := by decide +kernel
theorem dX10_up_49 : decode cX10_up 49 = .ok (.getfield 56, 3) := by decide +kernel
theorem dX10_up_52 : decode cX10_up 52 = .ok (.iload_n 3, 1) := by decide +kernel
theorem dX10_up_53 : decode cX10_up 53 = .ok (.invokevirtual 205, 3) := by decide +kernel
theorem dX10_up_56 : decode cX10_up 56 = .ok (.ireturn, 1) := by decide +kernel
theorem dX10_up_57 : decode cX10_up 57 = .ok (.iload_n 3, 1) := by decide +kernel
theorem dX10_up_58 : decode cX10_up 58 = .ok (.aload_n 0, 1) := by decide +kernel
theorem dX10_up_59 : decode cX10_up 59 = .ok (.getfield 56, 3) := by decide +kernel
theorem dX10_up_62 : decode cX10_up 62 = .ok (.iload_n 3, 1) := by decide +kernel
theorem dX10_up_63 : decode cX10_up 63 = .ok (.invokevirtual 205, 3) := by decide +kernel
theorem dX10_up_66 : decode cX10_up 66 = .ok (.iconst (-1), 1) := by decide +kernel
theorem dX10_up_67 : decode cX10_up 67 = .ok (.ixor, 1) := by decide +kernel
theorem dX10_up_68 : decode cX10_up 68 = .ok (.iand, 1) := by decide +kernel
theorem dX10_up_69 : decode cX10_up 69 = .ok (.ireturn, 1) := by decide +kernel
theorem dX10_up_70 : decode cX10_up 70 = .ok (.iload_n 2, 1) := by decide +kernel
theorem dX10_up_71 : decode cX10_up 71 = .ok (.aload_n 0, 1) := by decide +kernel
theorem dX10_up_72 : decode cX10_up 72 = .ok (.getfield 56, 3) := by decide +kernel
theorem dX10_up_75 : decode cX10_up 75 = .ok (.iload_n 2, 1) := by decide +kernel
theorem dX10_up_76 : decode cX10_up 76 = .ok (.invokevirtual 205, 3) := by decide +kernel
theorem dX10_up_79 : decode cX10_up 79 = .ok (.iconst (-1), 1) := by decide +kernel
theorem dX10_up_80 : decode cX10_up 80 = .ok (.ixor, 1) := by decide +kernel
theorem dX10_up_81 : decode cX10_up 81 = .ok (.iand, 1) := by decide +kernel
theorem dX10_up_82 : decode cX10_up 82 = .ok (.ireturn, 1) := by decide +kernel
theorem dX10_up_83 : decode cX10_up 83 = .ok (.iconst (-1), 1) := by decide +kernel
theorem dX10_up_84 : decode cX10_up 84 = .ok (.ireturn, 1) := by decide +kernel
theorem dX10_when_0 : decode cX10_when 0 = .ok (.aload_n 0, 1) := by decide +kernel
theorem dX10_when_1 : decode cX10_when 1 = .ok (.getfield 56, 3) := by decide +kernel
theorem dX10_when_4 : decode cX10_when 4 = .ok (.iload_n 1, 1) := by decide +kernel
theorem dX10_when_5 : decode cX10_when 5 = .ok (.invokevirtual 100, 3) := by decide +kernel
theorem dX10_when_8 : decode cX10_when 8 = .ok (.ifCond .eq 12, 3) := by decide +kernel
theorem dX10_when_20 : decode cX10_when 20 = .ok (.iconst (-1), 1) := by decide +kernel
theorem dX10_when_21 : decode cX10_when 21 = .ok (.ireturn, 1) := by decide +kernel
theorem dX10_ahead_0 : decode cX10_ahead 0 = .ok (.aload_n 0, 1) := by decide +kernel
theorem dX10_ahead_1 : decode cX10_ahead 1 = .ok (.getfield 56, 3) := by decide +kernel
theorem dX10_ahead_4 : decode cX10_ahead 4 = .ok (.iload_n 1, 1) := by decide +kernel
theorem dX10_ahead_5 : decode cX10_ahead 5 = .ok (.invokevirtual 100, 3) := by decide +kernel
theorem dX10_ahead_8 : decode cX10_ahead 8 = .ok (.ifCond .eq 28, 3) := by decide +kernel
theorem dX10_ahead_36 : decode cX10_ahead 36 = .ok (.sipush (-1000), 3) := by decide +kernel
theorem dX10_ahead_39 : decode cX10_ahead 39 = .ok (.ireturn, 1) := by decide +kernel
theorem dX10_drawn_0 : decode cX10_drawn 0 = .ok (.iload_n 1, 1) := by decide +kernel
theorem dX10_drawn_1 : decode cX10_drawn 1 = .ok (.ifCond .lt 10, 3) := by decide +kernel
theorem dX10_drawn_4 : decode cX10_drawn 4 = .ok (.iload_n 1, 1) := by decide +kernel
theorem dX10_drawn_5 : decode cX10_drawn 5 = .ok (.sipush 999, 3) := by decide +kernel
theorem dX10_drawn_8 : decode cX10_drawn 8 = .ok (.if_icmp .le 5, 3) := by decide +kernel
theorem dX10_drawn_11 : decode cX10_drawn 11 = .ok (.iconst (-1), 1) := by decide +kernel
theorem dX10_drawn_12 : decode cX10_drawn 12 = .ok (.ireturn, 1) := by decide +kernel
theorem dX10_drawn_13 : decode cX10_drawn 13 = .ok (.aload_n 0, 1) := by decide +kernel
theorem dX10_drawn_14 : decode cX10_drawn 14 = .ok (.invokevirtual 208, 3) := by decide +kernel
theorem dX10_drawn_17 : decode cX10_drawn 17 = .ok (.aload_n 0, 1) := by decide +kernel
theorem dX10_drawn_18 : decode cX10_drawn 18 = .ok (.getfield 26, 3) := by decide +kernel
theorem dX10_drawn_21 : decode cX10_drawn 21 = .ok (.aload_n 0, 1) := by decide +kernel
theorem dX10_drawn_22 : decode cX10_drawn 22 = .ok (.getfield 56, 3) := by decide +kernel
theorem dX10_drawn_25 : decode cX10_drawn 25 = .ok (.iload_n 1, 1) := by decide +kernel
theorem dX10_drawn_26 : decode cX10_drawn 26 = .ok (.invokevirtual 237, 3) := by decide +kernel
theorem dX10_drawn_29 : decode cX10_drawn 29 = .ok (.ireturn, 1) := by decide +kernel
theorem dX10_peak_0 : decode cX10_peak 0 = .ok (.iload_n 1, 1) := by decide +kernel
theorem dX10_peak_1 : decode cX10_peak 1 = .ok (.ifCond .lt 8, 3) := by decide +kernel
theorem dX10_peak_4 : decode cX10_peak 4 = .ok (.iload_n 1, 1) := by decide +kernel
theorem dX10_peak_5 : decode cX10_peak 5 = .ok (.iconst 3, 1) := by decide +kernel
theorem dX10_peak_6 : decode cX10_peak 6 = .ok (.if_icmp .le 5, 3) := by decide +kernel
theorem dX10_peak_9 : decode cX10_peak 9 = .ok (.iconst (-1), 1) := by decide +kernel
theorem dX10_peak_10 : decode cX10_peak 10 = .ok (.ireturn, 1) := by decide +kernel
theorem dX10_peak_11 : decode cX10_peak 11 = .ok (.iload_n 1, 1) := by decide +kernel
theorem dX10_peak_12 : decode cX10_peak 12 = .ok (.iconst 2, 1) := by decide +kernel
theorem dX10_peak_13 : decode cX10_peak 13 = .ok (.if_icmp .lt 19, 3) := by decide +kernel
theorem dX10_peak_16 : decode cX10_peak 16 = .ok (.aload_n 0, 1) := by decide +kernel
theorem dX10_peak_17 : decode cX10_peak 17 = .ok (.getfield 56, 3) := by decide +kernel
theorem dX10_peak_20 : decode cX10_peak 20 = .ok (.invokevirtual 230, 3) := by decide +kernel
theorem dX10_peak_23 : decode cX10_peak 23 = .ok (.sipush 20000, 3) := by decide +kernel
theorem dX10_peak_26 : decode cX10_peak 26 = .ok (.if_icmp .le 6, 3) := by decide +kernel
theorem dX10_peak_32 : decode cX10_peak 32 = .ok (.aload_n 0, 1) := by decide +kernel
theorem dX10_peak_33 : decode cX10_peak 33 = .ok (.getfield 56, 3) := by decide +kernel
theorem dX10_peak_36 : decode cX10_peak 36 = .ok (.aload_n 0, 1) := by decide +kernel
theorem dX10_peak_37 : decode cX10_peak 37 = .ok (.invokevirtual 218, 3) := by decide +kernel
theorem dX10_peak_40 : decode cX10_peak 40 = .ok (.invokevirtual 205, 3) := by decide +kernel
theorem dX10_peak_43 : decode cX10_peak 43 = .ok (.ifCond .ne 6, 3) := by decide +kernel
theorem dX10_peak_46 : decode cX10_peak 46 = .ok (.bipush (-4), 2) := by decide +kernel
theorem dX10_peak_48 : decode cX10_peak 48 = .ok (.ireturn, 1) := by decide +kernel
theorem dX10_stagger_0 : decode cX10_stagger 0 = .ok (.iload_n 1, 1) := by decide +kernel
theorem dX10_stagger_1 : decode cX10_stagger 1 = .ok (.ifCond .eq 25, 3) := by decide +kernel
theorem dX10_stagger_4 : decode cX10_stagger 4 = .ok (.iload_n 1, 1) := by decide +kernel
theorem dX10_stagger_5 : decode cX10_stagger 5 = .ok (.bipush 10, 2) := by decide +kernel
theorem dX10_stagger_7 : decode cX10_stagger 7 = .ok (.if_icmp .lt 17, 3) := by decide +kernel
theorem dX10_stagger_10 : decode cX10_stagger 10 = .ok (.iload_n 1, 1) := by decide +kernel
theorem dX10_stagger_11 : decode cX10_stagger 11 = .ok (.bipush 10, 2) := by decide +kernel
theorem dX10_stagger_13 : decode cX10_stagger 13 = .ok (.aload_n 0, 1) := by decide +kernel
theorem dX10_stagger_14 : decode cX10_stagger 14 = .ok (.getfield 56, 3) := by decide +kernel
theorem dX10_stagger_17 : decode cX10_stagger 17 = .ok (.getfield 117, 3) := by decide +kernel
theorem dX10_stagger_20 : decode cX10_stagger 20 = .ok (.iadd, 1) := by decide +kernel
theorem dX10_stagger_21 : decode cX10_stagger 21 = .ok (.if_icmp .lt 5, 3) := by decide +kernel
theorem dX10_stagger_24 : decode cX10_stagger 24 = .ok (.iconst (-1), 1) := by decide +kernel
theorem dX10_stagger_25 : decode cX10_stagger 25 = .ok (.ireturn, 1) := by decide +kernel
theorem dX10_stagger_26 : decode cX10_stagger 26 = .ok (.aload_n 0, 1) := by decide +kernel
theorem dX10_stagger_27 : decode cX10_stagger 27 = .ok (.getfield 56, 3) := by decide +kernel
theorem dX10_stagger_30 : decode cX10_stagger 30 = .ok (.getfield 117, 3) := by decide +kernel
theorem dX10_stagger_33 : decode cX10_stagger 33 = .ok (.bipush 6, 2) := by decide +kernel
theorem dX10_stagger_35 : decode cX10_stagger 35 = .ok (.if_icmp .le 6, 3) := by decide +kernel
theorem dX10_stagger_41 : decode cX10_stagger 41 = .ok (.aload_n 0, 1) := by decide +kernel
theorem dX10_stagger_42 : decode cX10_stagger 42 = .ok (.getfield 42, 3) := by decide +kernel
theorem dX10_stagger_45 : decode cX10_stagger 45 = .ok (.aload_n 0, 1) := by decide +kernel
theorem dX10_stagger_46 : decode cX10_stagger 46 = .ok (.getfield 56, 3) := by decide +kernel
theorem dX10_stagger_49 : decode cX10_stagger 49 = .ok (.aload_n 0, 1) := by decide +kernel
theorem dX10_stagger_50 : decode cX10_stagger 50 = .ok (.invokevirtual 218, 3) := by decide +kernel
theorem dX10_stagger_53 : decode cX10_stagger 53 = .ok (.aload_n 0, 1) := by decide +kernel
theorem dX10_stagger_54 : decode cX10_stagger 54 = .ok (.getfield 19, 3) := by decide +kernel
theorem dX10_stagger_57 : decode cX10_stagger 57 = .ok (.getfield 150, 3) := by decide +kernel
theorem dX10_stagger_60 : decode cX10_stagger 60 = .ok (.invokevirtual 259, 3) := by decide +kernel
theorem dX10_stagger_63 : decode cX10_stagger 63 = .ok (.iload_n 1, 1) := by decide +kernel
theorem dX10_stagger_64 : decode cX10_stagger 64 = .ok (.ifCond .eq 15, 3) := by decide +kernel
theorem dX10_stagger_79 : decode cX10_stagger 79 = .ok (.aload_n 0, 1) := by decide +kernel
theorem dX10_stagger_80 : decode cX10_stagger 80 = .ok (.getfield 42, 3) := by decide +kernel
theorem dX10_stagger_83 : decode cX10_stagger 83 = .ok (.getfield 263, 3) := by decide +kernel
theorem dX10_stagger_86 : decode cX10_stagger 86 = .ok (.ireturn, 1) := by decide +kernel
theorem dX10_adopt_0 : decode cX10_adopt 0 = .ok (.aload_n 0, 1) := by decide +kernel
theorem dX10_adopt_1 : decode cX10_adopt 1 = .ok (.getfield 56, 3) := by decide +kernel
theorem dX10_adopt_4 : decode cX10_adopt 4 = .ok (.getfield 117, 3) := by decide +kernel
theorem dX10_adopt_7 : decode cX10_adopt 7 = .ok (.bipush 6, 2) := by decide +kernel
theorem dX10_adopt_9 : decode cX10_adopt 9 = .ok (.if_icmp .le 6, 3) := by decide +kernel
theorem dX10_adopt_15 : decode cX10_adopt 15 = .ok (.aload_n 0, 1) := by decide +kernel
theorem dX10_adopt_16 : decode cX10_adopt 16 = .ok (.getfield 42, 3) := by decide +kernel
theorem dX10_adopt_19 : decode cX10_adopt 19 = .ok (.aload_n 0, 1) := by decide +kernel
theorem dX10_adopt_20 : decode cX10_adopt 20 = .ok (.getfield 56, 3) := by decide +kernel
theorem dX10_adopt_23 : decode cX10_adopt 23 = .ok (.aload_n 0, 1) := by decide +kernel
theorem dX10_adopt_24 : decode cX10_adopt 24 = .ok (.invokevirtual 218, 3) := by decide +kernel
theorem dX10_adopt_27 : decode cX10_adopt 27 = .ok (.aload_n 0, 1) := by decide +kernel
theorem dX10_adopt_28 : decode cX10_adopt 28 = .ok (.getfield 19, 3) := by decide +kernel
theorem dX10_adopt_31 : decode cX10_adopt 31 = .ok (.getfield 150, 3) := by decide +kernel
theorem dX10_adopt_34 : decode cX10_adopt 34 = .ok (.invokevirtual 259, 3) := by decide +kernel
theorem dX10_adopt_37 : decode cX10_adopt 37 = .ok (.aload_n 0, 1) := by decide +kernel
theorem dX10_adopt_38 : decode cX10_adopt 38 = .ok (.getfield 42, 3) := by decide +kernel
theorem dX10_adopt_41 : decode cX10_adopt 41 = .ok (.getfield 263, 3) := by decide +kernel
theorem dX10_adopt_44 : decode cX10_adopt 44 = .ok (.istore_n 1, 1) := by decide +kernel
theorem dX10_adopt_45 : decode cX10_adopt 45 = .ok (.iload_n 1, 1) := by decide +kernel
theorem dX10_adopt_46 : decode cX10_adopt 46 = .ok (.bipush (-4), 2) := by decide +kernel
theorem dX10_adopt_48 : decode cX10_adopt 48 = .ok (.if_icmp .eq 21, 3) := by decide +kernel
theorem dX10_adopt_69 : decode cX10_adopt 69 = .ok (.iload_n 1, 1) := by decide +kernel
theorem dX10_adopt_70 : decode cX10_adopt 70 = .ok (.ireturn, 1) := by decide +kernel
theorem dX10_down_0 : decode cX10_down 0 = .ok (.iload_n 1, 1) := by decide +kernel
theorem dX10_down_1 : decode cX10_down 1 = .ok (.aload_n 0, 1) := by decide +kernel
theorem dX10_down_2 : decode cX10_down 2 = .ok (.getfield 56, 3) := by decide +kernel
theorem dX10_down_5 : decode cX10_down 5 = .ok (.invokevirtual 120, 3) := by decide +kernel
theorem dX10_down_8 : decode cX10_down 8 = .ok (.iconst (-1), 1) := by decide +kernel
theorem dX10_down_9 : decode cX10_down 9 = .ok (.ixor, 1) := by decide +kernel
theorem dX10_down_10 : decode cX10_down 10 = .ok (.iand, 1) := by decide +kernel
theorem dX10_down_11 : decode cX10_down 11 = .ok (.ifCond .eq 5, 3) := by decide +kernel
theorem dX10_down_14 : decode cX10_down 14 = .ok (.iconst (-1), 1) := by decide +kernel
theorem dX10_down_15 : decode cX10_down 15 = .ok (.ireturn, 1) := by decide +kernel
theorem dX10_down_16 : decode cX10_down 16 = .ok (.aload_n 0, 1) := by decide +kernel
theorem dX10_down_17 : decode cX10_down 17 = .ok (.getfield 56, 3) := by decide +kernel
theorem dX10_down_20 : decode cX10_down 20 = .ok (.aload_n 0, 1) := by decide +kernel
theorem dX10_down_21 : decode cX10_down 21 = .ok (.invokevirtual 218, 3) := by decide +kernel
theorem dX10_down_24 : decode cX10_down 24 = .ok (.invokevirtual 205, 3) := by decide +kernel
theorem dX10_down_27 : decode cX10_down 27 = .ok (.aload_n 0, 1) := by decide +kernel
theorem dX10_down_28 : decode cX10_down 28 = .ok (.getfield 56, 3) := by decide +kernel
theorem dX10_down_31 : decode cX10_down 31 = .ok (.aload_n 0, 1) := by decide +kernel
theorem dX10_down_32 : decode cX10_down 32 = .ok (.invokevirtual 218, 3) := by decide +kernel
theorem dX10_down_35 : decode cX10_down 35 = .ok (.iload_n 1, 1) := by decide +kernel
theorem dX10_down_36 : decode cX10_down 36 = .ok (.iconst (-1), 1) := by decide +kernel
theorem dX10_down_37 : decode cX10_down 37 = .ok (.ixor, 1) := by decide +kernel
theorem dX10_down_38 : decode cX10_down 38 = .ok (.iand, 1) := by decide +kernel
theorem dX10_down_39 : decode cX10_down 39 = .ok (.invokevirtual 205, 3) := by decide +kernel
theorem dX10_down_42 : decode cX10_down 42 = .ok (.iconst (-1), 1) := by decide +kernel
theorem dX10_down_43 : decode cX10_down 43 = .ok (.ixor, 1) := by decide +kernel
theorem dX10_down_44 : decode cX10_down 44 = .ok (.iand, 1) := by decide +kernel
theorem dX10_down_45 : decode cX10_down 45 = .ok (.ireturn, 1) := by decide +kernel
theorem dX10_cut_0 : decode cX10_cut 0 = .ok (.aload_n 0, 1) := by decide +kernel
theorem dX10_cut_1 : decode cX10_cut 1 = .ok (.getfield 56, 3) := by decide +kernel
theorem dX10_cut_4 : decode cX10_cut 4 = .ok (.iload_n 1, 1) := by decide +kernel
theorem dX10_cut_5 : decode cX10_cut 5 = .ok (.invokevirtual 100, 3) := by decide +kernel
theorem dX10_cut_8 : decode cX10_cut 8 = .ok (.ifCond .eq 12, 3) := by decide +kernel
theorem dX10_cut_20 : decode cX10_cut 20 = .ok (.iconst (-1), 1) := by decide +kernel
theorem dX10_cut_21 : decode cX10_cut 21 = .ok (.ireturn, 1) := by decide +kernel
theorem dX10_need_0 : decode cX10_need 0 = .ok (.aload_n 0, 1) := by decide +kernel
theorem dX10_need_1 : decode cX10_need 1 = .ok (.getfield 56, 3) := by decide +kernel
theorem dX10_need_4 : decode cX10_need 4 = .ok (.iload_n 1, 1) := by decide +kernel
theorem dX10_need_5 : decode cX10_need 5 = .ok (.invokevirtual 100, 3) := by decide +kernel
theorem dX10_need_8 : decode cX10_need 8 = .ok (.ifCond .eq 12, 3) := by decide +kernel
theorem dX10_need_20 : decode cX10_need 20 = .ok (.iconst (-1), 1) := by decide +kernel
theorem dX10_need_21 : decode cX10_need 21 = .ok (.ireturn, 1) := by decide +kernel
theorem dX10_must_0 : decode cX10_must 0 = .ok (.aload_n 0, 1) := by decide +kernel
theorem dX10_must_1 : decode cX10_must 1 = .ok (.getfield 56, 3) := by decide +kernel
theorem dX10_must_4 : decode cX10_must 4 = .ok (.iload_n 1, 1) := by decide +kernel
theorem dX10_must_5 : decode cX10_must 5 = .ok (.invokevirtual 100, 3) := by decide +kernel
theorem dX10_must_8 : decode cX10_must 8 = .ok (.ifCond .ne 5, 3) := by decide +kernel
theorem dX10_must_11 : decode cX10_must 11 = .ok (.iconst (-1), 1) := by decide +kernel
theorem dX10_must_12 : decode cX10_must 12 = .ok (.ireturn, 1) := by decide +kernel
theorem dX10_seen_0 : decode cX10_seen 0 = .ok (.iload_n 1, 1) := by decide +kernel
theorem dX10_seen_1 : decode cX10_seen 1 = .ok (.aload_n 0, 1) := by decide +kernel
theorem dX10_seen_2 : decode cX10_seen 2 = .ok (.getfield 56, 3) := by decide +kernel
theorem dX10_seen_5 : decode cX10_seen 5 = .ok (.invokevirtual 120, 3) := by decide +kernel
theorem dX10_seen_8 : decode cX10_seen 8 = .ok (.iconst (-1), 1) := by decide +kernel
theorem dX10_seen_9 : decode cX10_seen 9 = .ok (.ixor, 1) := by decide +kernel
theorem dX10_seen_10 : decode cX10_seen 10 = .ok (.iand, 1) := by decide +kernel
theorem dX10_seen_11 : decode cX10_seen 11 = .ok (.ifCond .eq 5, 3) := by decide +kernel
theorem dX10_seen_14 : decode cX10_seen 14 = .ok (.iconst (-1), 1) := by decide +kernel
theorem dX10_seen_15 : decode cX10_seen 15 = .ok (.ireturn, 1) := by decide +kernel
theorem dX10_seen_16 : decode cX10_seen 16 = .ok (.aload_n 0, 1) := by decide +kernel
theorem dX10_seen_17 : decode cX10_seen 17 = .ok (.getfield 56, 3) := by decide +kernel
theorem dX10_seen_20 : decode cX10_seen 20 = .ok (.iload_n 1, 1) := by decide +kernel
theorem dX10_seen_21 : decode cX10_seen 21 = .ok (.invokestatic 292, 3) := by decide +kernel
theorem dX10_seen_24 : decode cX10_seen 24 = .ok (.ireturn, 1) := by decide +kernel
theorem dX10_sheet_0 : decode cX10_sheet 0 = .ok (.iload_n 1, 1) := by decide +kernel
theorem dX10_sheet_1 : decode cX10_sheet 1 = .ok (.invokestatic 295, 3) := by decide +kernel
theorem dX10_sheet_4 : decode cX10_sheet 4 = .ok (.ifCond .eq 16, 3) := by decide +kernel
theorem dX10_sheet_7 : decode cX10_sheet 7 = .ok (.iload_n 2, 1) := by decide +kernel
theorem dX10_sheet_8 : decode cX10_sheet 8 = .ok (.invokestatic 298, 3) := by decide +kernel
theorem dX10_sheet_11 : decode cX10_sheet 11 = .ok (.ifCond .eq 9, 3) := by decide +kernel
theorem dX10_sheet_14 : decode cX10_sheet 14 = .ok (.iload_n 3, 1) := by decide +kernel
theorem dX10_sheet_15 : decode cX10_sheet 15 = .ok (.bipush 40, 2) := by decide +kernel
theorem dX10_sheet_17 : decode cX10_sheet 17 = .ok (.if_icmp .le 5, 3) := by decide +kernel
theorem dX10_sheet_20 : decode cX10_sheet 20 = .ok (.iconst (-1), 1) := by decide +kernel
theorem dX10_sheet_21 : decode cX10_sheet 21 = .ok (.ireturn, 1) := by decide +kernel
theorem dX10_sheet_22 : decode cX10_sheet 22 = .ok (.iload_n 3, 1) := by decide +kernel
theorem dX10_sheet_23 : decode cX10_sheet 23 = .ok (.ifCond .ge 6, 3) := by decide +kernel
theorem dX10_sheet_26 : decode cX10_sheet 26 = .ok (.bipush (-14), 2) := by decide +kernel
theorem dX10_sheet_28 : decode cX10_sheet 28 = .ok (.ireturn, 1) := by decide +kernel
theorem dX10_sheet_29 : decode cX10_sheet 29 = .ok (.aload_n 0, 1) := by decide +kernel
theorem dX10_sheet_30 : decode cX10_sheet 30 = .ok (.getfield 49, 3) := by decide +kernel
theorem dX10_sheet_33 : decode cX10_sheet 33 = .ok (.iload_n 1, 1) := by decide +kernel
theorem dX10_sheet_34 : decode cX10_sheet 34 = .ok (.iload_n 2, 1) := by decide +kernel
theorem dX10_sheet_35 : decode cX10_sheet 35 = .ok (.iload_n 3, 1) := by decide +kernel
theorem dX10_sheet_36 : decode cX10_sheet 36 = .ok (.invokevirtual 301, 3) := by decide +kernel
theorem dX10_sheet_39 : decode cX10_sheet 39 = .ok (.iconst 1, 1) := by decide +kernel
theorem dX10_sheet_40 : decode cX10_sheet 40 = .ok (.ireturn, 1) := by decide +kernel
theorem dX10_lay_0 : decode cX10_lay 0 = .ok (.iload_n 1, 1) := by decide +kernel
theorem dX10_lay_1 : decode cX10_lay 1 = .ok (.invokestatic 295, 3) := by decide +kernel
theorem dX10_lay_4 : decode cX10_lay 4 = .ok (.ifCond .ne 5, 3) := by decide +kernel
theorem dX10_lay_7 : decode cX10_lay 7 = .ok (.iconst (-1), 1) := by decide +kernel
theorem dX10_lay_8 : decode cX10_lay 8 = .ok (.ireturn, 1) := by decide +kernel
theorem dX10_lay_9 : decode cX10_lay 9 = .ok (.aload_n 0, 1) := by decide +kernel
theorem dX10_lay_10 : decode cX10_lay 10 = .ok (.getfield 49, 3) := by decide +kernel
theorem dX10_lay_13 : decode cX10_lay 13 = .ok (.getfield 305, 3) := by decide +kernel
theorem dX10_lay_16 : decode cX10_lay 16 = .ok (.iload_n 1, 1) := by decide +kernel
theorem dX10_lay_17 : decode cX10_lay 17 = .ok (.iaload, 1) := by decide +kernel
theorem dX10_lay_18 : decode cX10_lay 18 = .ok (.bipush (-4), 2) := by decide +kernel
theorem dX10_lay_20 : decode cX10_lay 20 = .ok (.if_icmp .ne 6, 3) := by decide +kernel
theorem dX10_lay_23 : decode cX10_lay 23 = .ok (.bipush (-11), 2) := by decide +kernel
theorem dX10_lay_25 : decode cX10_lay 25 = .ok (.ireturn, 1) := by decide +kernel
theorem dX10_measured_0 : decode cX10_measured 0 = .ok (.iload_n 1, 1) := by decide +kernel
theorem dX10_measured_1 : decode cX10_measured 1 = .ok (.invokestatic 295, 3) := by decide +kernel
theorem dX10_measured_4 : decode cX10_measured 4 = .ok (.ifCond .eq 10, 3) := by decide +kernel
theorem dX10_measured_7 : decode cX10_measured 7 = .ok (.iload_n 2, 1) := by decide +kernel
theorem dX10_measured_8 : decode cX10_measured 8 = .ok (.invokestatic 298, 3) := by decide +kernel
theorem dX10_measured_11 : decode cX10_measured 11 = .ok (.ifCond .ne 5, 3) := by decide +kernel
theorem dX10_measured_14 : decode cX10_measured 14 = .ok (.iconst (-1), 1) := by decide +kernel
theorem dX10_measured_15 : decode cX10_measured 15 = .ok (.ireturn, 1) := by decide +kernel
theorem dX10_measured_16 : decode cX10_measured 16 = .ok (.iload 4, 2) := by decide +kernel
theorem dX10_measured_18 : decode cX10_measured 18 = .ok (.ifCond .lt 21, 3) := by decide +kernel
theorem dX10_measured_21 : decode cX10_measured 21 = .ok (.iload 4, 2) := by decide +kernel
theorem dX10_measured_23 : decode cX10_measured 23 = .ok (.bipush 40, 2) := by decide +kernel
theorem dX10_measured_25 : decode cX10_measured 25 = .ok (.if_icmp .gt 14, 3) := by decide +kernel
theorem dX10_measured_28 : decode cX10_measured 28 = .ok (.iload 5, 2) := by decide +kernel
theorem dX10_measured_30 : decode cX10_measured 30 = .ok (.ifCond .lt 9, 3) := by decide +kernel
theorem dX10_measured_33 : decode cX10_measured 33 = .ok (.iload 5, 2) := by decide +kernel
theorem dX10_measured_35 : decode cX10_measured 35 = .ok (.iconst 2, 1) := by decide +kernel
theorem dX10_measured_36 : decode cX10_measured 36 = .ok (.if_icmp .le 5, 3) := by decide +kernel
theorem dX10_measured_39 : decode cX10_measured 39 = .ok (.iconst (-1), 1) := by decide +kernel
theorem dX10_measured_40 : decode cX10_measured 40 = .ok (.ireturn, 1) := by decide +kernel
theorem dX10_measured_41 : decode cX10_measured 41 = .ok (.aload_n 0, 1) := by decide +kernel
theorem dX10_measured_42 : decode cX10_measured 42 = .ok (.getfield 49, 3) := by decide +kernel
theorem dX10_measured_45 : decode cX10_measured 45 = .ok (.getfield 305, 3) := by decide +kernel
theorem dX10_measured_48 : decode cX10_measured 48 = .ok (.iload_n 1, 1) := by decide +kernel
theorem dX10_measured_49 : decode cX10_measured 49 = .ok (.iaload, 1) := by decide +kernel
theorem dX10_measured_50 : decode cX10_measured 50 = .ok (.bipush (-4), 2) := by decide +kernel
theorem dX10_measured_52 : decode cX10_measured 52 = .ok (.if_icmp .ne 6, 3) := by decide +kernel
theorem dX10_measured_55 : decode cX10_measured 55 = .ok (.bipush (-11), 2) := by decide +kernel
theorem dX10_measured_57 : decode cX10_measured 57 = .ok (.ireturn, 1) := by decide +kernel
theorem dX10_count_0 : decode cX10_count 0 = .ok (.iload_n 1, 1) := by decide +kernel
theorem dX10_count_1 : decode cX10_count 1 = .ok (.tableswitch 113 0 5 #[39, 47, 58, 69, 95, 103], 39) := by decide +kernel
theorem dX10_count_40 : decode cX10_count 40 = .ok (.aload_n 0, 1) := by decide +kernel
theorem dX10_count_41 : decode cX10_count 41 = .ok (.getfield 56, 3) := by decide +kernel
theorem dX10_count_44 : decode cX10_count 44 = .ok (.getfield 117, 3) := by decide +kernel
theorem dX10_count_47 : decode cX10_count 47 = .ok (.ireturn, 1) := by decide +kernel
theorem dX10_count_48 : decode cX10_count 48 = .ok (.aload_n 0, 1) := by decide +kernel
theorem dX10_count_49 : decode cX10_count 49 = .ok (.getfield 19, 3) := by decide +kernel
theorem dX10_count_52 : decode cX10_count 52 = .ok (.getfield 147, 3) := by decide +kernel
theorem dX10_count_55 : decode cX10_count 55 = .ok (.invokestatic 281, 3) := by decide +kernel
theorem dX10_count_58 : decode cX10_count 58 = .ok (.ireturn, 1) := by decide +kernel
theorem dX10_count_59 : decode cX10_count 59 = .ok (.aload_n 0, 1) := by decide +kernel
theorem dX10_count_60 : decode cX10_count 60 = .ok (.getfield 19, 3) := by decide +kernel
theorem dX10_count_63 : decode cX10_count 63 = .ok (.getfield 187, 3) := by decide +kernel
theorem dX10_count_66 : decode cX10_count 66 = .ok (.getfield 191, 3) := by decide +kernel
theorem dX10_count_69 : decode cX10_count 69 = .ok (.ireturn, 1) := by decide +kernel
theorem dX10_count_70 : decode cX10_count 70 = .ok (.aload_n 0, 1) := by decide +kernel
theorem dX10_count_71 : decode cX10_count 71 = .ok (.getfield 56, 3) := by decide +kernel
theorem dX10_count_74 : decode cX10_count 74 = .ok (.invokevirtual 230, 3) := by decide +kernel
theorem dX10_count_77 : decode cX10_count 77 = .ok (.sipush 20000, 3) := by decide +kernel
theorem dX10_count_80 : decode cX10_count 80 = .ok (.if_icmp .le 8, 3) := by decide +kernel
theorem dX10_count_88 : decode cX10_count 88 = .ok (.aload_n 0, 1) := by decide +kernel
theorem dX10_count_89 : decode cX10_count 89 = .ok (.getfield 56, 3) := by decide +kernel
theorem dX10_count_92 : decode cX10_count 92 = .ok (.invokevirtual 230, 3) := by decide +kernel
theorem dX10_count_95 : decode cX10_count 95 = .ok (.ireturn, 1) := by decide +kernel
theorem dX10_count_96 : decode cX10_count 96 = .ok (.aload_n 0, 1) := by decide +kernel
theorem dX10_count_97 : decode cX10_count 97 = .ok (.getfield 10, 3) := by decide +kernel
theorem dX10_count_100 : decode cX10_count 100 = .ok (.getfield 80, 3) := by decide +kernel
theorem dX10_count_103 : decode cX10_count 103 = .ok (.ireturn, 1) := by decide +kernel
theorem dX10_count_104 : decode cX10_count 104 = .ok (.aload_n 0, 1) := by decide +kernel
theorem dX10_count_105 : decode cX10_count 105 = .ok (.getfield 49, 3) := by decide +kernel
theorem dX10_count_108 : decode cX10_count 108 = .ok (.getfield 305, 3) := by decide +kernel
theorem dX10_count_111 : decode cX10_count 111 = .ok (.iconst 0, 1) := by decide +kernel
theorem dX10_count_112 : decode cX10_count 112 = .ok (.iaload, 1) := by decide +kernel
theorem dX10_count_113 : decode cX10_count 113 = .ok (.ireturn, 1) := by decide +kernel
theorem dX10_count_114 : decode cX10_count 114 = .ok (.iconst (-1), 1) := by decide +kernel
theorem dX10_count_115 : decode cX10_count 115 = .ok (.ireturn, 1) := by decide +kernel
theorem dX10_asNumber_0 : decode cX10_asNumber 0 = .ok (.iload_n 0, 1) := by decide +kernel
theorem dX10_asNumber_1 : decode cX10_asNumber 1 = .ok (.ifCond .eq 7, 3) := by decide +kernel
theorem dX10_asNumber_4 : decode cX10_asNumber 4 = .ok (.iconst 1, 1) := by decide +kernel
theorem dX10_asNumber_5 : decode cX10_asNumber 5 = .ok (.goto 4, 3) := by decide +kernel
theorem dX10_asNumber_8 : decode cX10_asNumber 8 = .ok (.iconst 0, 1) := by decide +kernel
theorem dX10_asNumber_9 : decode cX10_asNumber 9 = .ok (.ireturn, 1) := by decide +kernel
theorem dX10_alive_0 : decode cX10_alive 0 = .ok (.aload_n 0, 1) := by decide +kernel
theorem dX10_alive_1 : decode cX10_alive 1 = .ok (.getfield 56, 3) := by decide +kernel
theorem dX10_alive_4 : decode cX10_alive 4 = .ok (.invokevirtual 120, 3) := by decide +kernel
theorem dX10_alive_7 : decode cX10_alive 7 = .ok (.aload_n 0, 1) := by decide +kernel
theorem dX10_alive_8 : decode cX10_alive 8 = .ok (.getfield 19, 3) := by decide +kernel
theorem dX10_alive_11 : decode cX10_alive 11 = .ok (.getfield 147, 3) := by decide +kernel
theorem dX10_alive_14 : decode cX10_alive 14 = .ok (.iconst (-1), 1) := by decide +kernel
theorem dX10_alive_15 : decode cX10_alive 15 = .ok (.ixor, 1) := by decide +kernel
theorem dX10_alive_16 : decode cX10_alive 16 = .ok (.iand, 1) := by decide +kernel
theorem dX10_alive_17 : decode cX10_alive 17 = .ok (.ireturn, 1) := by decide +kernel
theorem dX10_followTimes_0 : decode cX10_followTimes 0 = .ok (.aload_n 0, 1) := by decide +kernel
theorem dX10_followTimes_1 : decode cX10_followTimes 1 = .ok (.getfield 26, 3) := by decide +kernel
theorem dX10_followTimes_4 : decode cX10_followTimes 4 = .ok (.aload_n 0, 1) := by decide +kernel
theorem dX10_followTimes_5 : decode cX10_followTimes 5 = .ok (.getfield 56, 3) := by decide +kernel
theorem dX10_followTimes_8 : decode cX10_followTimes 8 = .ok (.invokevirtual 211, 3) := by decide +kernel
theorem dX10_followTimes_11 : decode cX10_followTimes 11 = .ok (.aload_n 0, 1) := by decide +kernel
theorem dX10_followTimes_12 : decode cX10_followTimes 12 = .ok (.getfield 26, 3) := by decide +kernel
theorem dX10_followTimes_15 : decode cX10_followTimes 15 = .ok (.aload_n 0, 1) := by decide +kernel
theorem dX10_followTimes_16 : decode cX10_followTimes 16 = .ok (.getfield 19, 3) := by decide +kernel
theorem dX10_followTimes_19 : decode cX10_followTimes 19 = .ok (.getfield 150, 3) := by decide +kernel
theorem dX10_followTimes_22 : decode cX10_followTimes 22 = .ok (.invokevirtual 318, 3) := by decide +kernel
theorem dX10_followTimes_25 : decode cX10_followTimes 25 = .ok (.aload_n 0, 1) := by decide +kernel
theorem dX10_followTimes_26 : decode cX10_followTimes 26 = .ok (.getfield 26, 3) := by decide +kernel
theorem dX10_followTimes_29 : decode cX10_followTimes 29 = .ok (.aload_n 0, 1) := by decide +kernel
theorem dX10_followTimes_30 : decode cX10_followTimes 30 = .ok (.getfield 56, 3) := by decide +kernel
theorem dX10_followTimes_33 : decode cX10_followTimes 33 = .ok (.aload_n 0, 1) := by decide +kernel
theorem dX10_followTimes_34 : decode cX10_followTimes 34 = .ok (.invokevirtual 218, 3) := by decide +kernel
theorem dX10_followTimes_37 : decode cX10_followTimes 37 = .ok (.invokevirtual 221, 3) := by decide +kernel
theorem dX10_followTimes_40 : decode cX10_followTimes 40 = .ok (.return_, 1) := by decide +kernel
theorem dX10_forgetReckoned_0 : decode cX10_forgetReckoned 0 = .ok (.aload_n 0, 1) := by decide +kernel
theorem dX10_forgetReckoned_1 : decode cX10_forgetReckoned 1 = .ok (.getfield 35, 3) := by decide +kernel
theorem dX10_forgetReckoned_4 : decode cX10_forgetReckoned 4 = .ok (.invokevirtual 321, 3) := by decide +kernel
theorem dX10_forgetReckoned_7 : decode cX10_forgetReckoned 7 = .ok (.aload_n 0, 1) := by decide +kernel
theorem dX10_forgetReckoned_8 : decode cX10_forgetReckoned 8 = .ok (.getfield 42, 3) := by decide +kernel
theorem dX10_forgetReckoned_11 : decode cX10_forgetReckoned 11 = .ok (.iconst 0, 1) := by decide +kernel
theorem dX10_forgetReckoned_12 : decode cX10_forgetReckoned 12 = .ok (.putfield 324, 3) := by decide +kernel
theorem dX10_forgetReckoned_15 : decode cX10_forgetReckoned 15 = .ok (.return_, 1) := by decide +kernel
theorem dX11_init_0 : decode cX11_init 0 = .ok (.aload_n 0, 1) := by decide +kernel
theorem dX11_init_1 : decode cX11_init 1 = .ok (.invokespecial 1, 3) := by decide +kernel
theorem dX11_init_4 : decode cX11_init 4 = .ok (.aload_n 0, 1) := by decide +kernel
theorem dX11_init_5 : decode cX11_init 5 = .ok (.bipush 56, 2) := by decide +kernel
theorem dX11_init_7 : decode cX11_init 7 = .ok (.newarray .int, 2) := by decide +kernel
theorem dX11_init_9 : decode cX11_init 9 = .ok (.putfield 7, 3) := by decide +kernel
theorem dX11_init_12 : decode cX11_init 12 = .ok (.aload_n 0, 1) := by decide +kernel
theorem dX11_init_13 : decode cX11_init 13 = .ok (.bipush 8, 2) := by decide +kernel
theorem dX11_init_15 : decode cX11_init 15 = .ok (.newarray .int, 2) := by decide +kernel
theorem dX11_init_17 : decode cX11_init 17 = .ok (.putfield 13, 3) := by decide +kernel
theorem dX11_init_20 : decode cX11_init 20 = .ok (.aload_n 0, 1) := by decide +kernel
theorem dX11_init_21 : decode cX11_init 21 = .ok (.sipush 4096, 3) := by decide +kernel
theorem dX11_init_24 : decode cX11_init 24 = .ok (.newarray .boolean, 2) := by decide +kernel
theorem dX11_init_26 : decode cX11_init 26 = .ok (.putfield 16, 3) := by decide +kernel
theorem dX11_init_29 : decode cX11_init 29 = .ok (.aload_n 0, 1) := by decide +kernel
theorem dX11_init_30 : decode cX11_init 30 = .ok (.bipush 56, 2) := by decide +kernel
theorem dX11_init_32 : decode cX11_init 32 = .ok (.newarray .int, 2) := by decide +kernel
theorem dX11_init_34 : decode cX11_init 34 = .ok (.putfield 20, 3) := by decide +kernel
theorem dX11_init_37 : decode cX11_init 37 = .ok (.aload_n 0, 1) := by decide +kernel
theorem dX11_init_38 : decode cX11_init 38 = .ok (.bipush 8, 2) := by decide +kernel
theorem dX11_init_40 : decode cX11_init 40 = .ok (.newarray .int, 2) := by decide +kernel
theorem dX11_init_42 : decode cX11_init 42 = .ok (.putfield 23, 3) := by decide +kernel
theorem dX11_init_45 : decode cX11_init 45 = .ok (.aload_n 0, 1) := by decide +kernel
theorem dX11_init_46 : decode cX11_init 46 = .ok (.sipush 4096, 3) := by decide +kernel
theorem dX11_init_49 : decode cX11_init 49 = .ok (.newarray .boolean, 2) := by decide +kernel
theorem dX11_init_51 : decode cX11_init 51 = .ok (.putfield 26, 3) := by decide +kernel
theorem dX11_init_54 : decode cX11_init 54 = .ok (.aload_n 0, 1) := by decide +kernel
theorem dX11_init_55 : decode cX11_init 55 = .ok (.sipush 400, 3) := by decide +kernel
theorem dX11_init_58 : decode cX11_init 58 = .ok (.newarray .int, 2) := by decide +kernel
theorem dX11_init_60 : decode cX11_init 60 = .ok (.putfield 29, 3) := by decide +kernel
theorem dX11_init_63 : decode cX11_init 63 = .ok (.aload_n 0, 1) := by decide +kernel
theorem dX11_init_64 : decode cX11_init 64 = .ok (.sipush 400, 3) := by decide +kernel
theorem dX11_init_67 : decode cX11_init 67 = .ok (.newarray .int, 2) := by decide +kernel
theorem dX11_init_69 : decode cX11_init 69 = .ok (.putfield 32, 3) := by decide +kernel
theorem dX11_init_72 : decode cX11_init 72 = .ok (.aload_n 0, 1) := by decide +kernel
theorem dX11_init_73 : decode cX11_init 73 = .ok (.sipush 400, 3) := by decide +kernel
theorem dX11_init_76 : decode cX11_init 76 = .ok (.newarray .int, 2) := by decide +kernel
theorem dX11_init_78 : decode cX11_init 78 = .ok (.putfield 35, 3) := by decide +kernel
theorem dX11_init_81 : decode cX11_init 81 = .ok (.aload_n 0, 1) := by decide +kernel
theorem dX11_init_82 : decode cX11_init 82 = .ok (.sipush 400, 3) := by decide +kernel
theorem dX11_init_85 : decode cX11_init 85 = .ok (.newarray .int, 2) := by decide +kernel
theorem dX11_init_87 : decode cX11_init 87 = .ok (.putfield 38, 3) := by decide +kernel
theorem dX11_init_90 : decode cX11_init 90 = .ok (.aload_n 0, 1) := by decide +kernel
theorem dX11_init_91 : decode cX11_init 91 = .ok (.sipush 400, 3) := by decide +kernel
theorem dX11_init_94 : decode cX11_init 94 = .ok (.newarray .boolean, 2) := by decide +kernel
theorem dX11_init_96 : decode cX11_init 96 = .ok (.putfield 41, 3) := by decide +kernel
theorem dX11_init_99 : decode cX11_init 99 = .ok (.aload_n 0, 1) := by decide +kernel
theorem dX11_init_100 : decode cX11_init 100 = .ok (.sipush 400, 3) := by decide +kernel
theorem dX11_init_103 : decode cX11_init 103 = .ok (.newarray .int, 2) := by decide +kernel
theorem dX11_init_105 : decode cX11_init 105 = .ok (.putfield 44, 3) := by decide +kernel
theorem dX11_init_108 : decode cX11_init 108 = .ok (.aload_n 0, 1) := by decide +kernel
theorem dX11_init_109 : decode cX11_init 109 = .ok (.bipush 8, 2) := by decide +kernel
theorem dX11_init_111 : decode cX11_init 111 = .ok (.newarray .int, 2) := by decide +kernel
theorem dX11_init_113 : decode cX11_init 113 = .ok (.putfield 47, 3) := by decide +kernel
theorem dX11_init_116 : decode cX11_init 116 = .ok (.aload_n 0, 1) := by decide +kernel
theorem dX11_init_117 : decode cX11_init 117 = .ok (.bipush 8, 2) := by decide +kernel
theorem dX11_init_119 : decode cX11_init 119 = .ok (.newarray .int, 2) := by decide +kernel
theorem dX11_init_121 : decode cX11_init 121 = .ok (.putfield 50, 3) := by decide +kernel
theorem dX11_init_124 : decode cX11_init 124 = .ok (.aload_n 0, 1) := by decide +kernel
theorem dX11_init_125 : decode cX11_init 125 = .ok (.bipush 8, 2) := by decide +kernel
theorem dX11_init_127 : decode cX11_init 127 = .ok (.newarray .int, 2) := by decide +kernel
theorem dX11_init_129 : decode cX11_init 129 = .ok (.putfield 53, 3) := by decide +kernel
theorem dX11_init_132 : decode cX11_init 132 = .ok (.aload_n 0, 1) := by decide +kernel
theorem dX11_init_133 : decode cX11_init 133 = .ok (.bipush 8, 2) := by decide +kernel
theorem dX11_init_135 : decode cX11_init 135 = .ok (.newarray .boolean, 2) := by decide +kernel
theorem dX11_init_137 : decode cX11_init 137 = .ok (.putfield 56, 3) := by decide +kernel
theorem dX11_init_140 : decode cX11_init 140 = .ok (.aload_n 0, 1) := by decide +kernel
theorem dX11_init_141 : decode cX11_init 141 = .ok (.bipush 8, 2) := by decide +kernel
theorem dX11_init_143 : decode cX11_init 143 = .ok (.newarray .int, 2) := by decide +kernel
theorem dX11_init_145 : decode cX11_init 145 = .ok (.putfield 59, 3) := by decide +kernel
theorem dX11_init_148 : decode cX11_init 148 = .ok (.aload_n 0, 1) := by decide +kernel
theorem dX11_init_149 : decode cX11_init 149 = .ok (.bipush 8, 2) := by decide +kernel
theorem dX11_init_151 : decode cX11_init 151 = .ok (.newarray .int, 2) := by decide +kernel
theorem dX11_init_153 : decode cX11_init 153 = .ok (.putfield 62, 3) := by decide +kernel
theorem dX11_init_156 : decode cX11_init 156 = .ok (.aload_n 0, 1) := by decide +kernel
theorem dX11_init_157 : decode cX11_init 157 = .ok (.sipush 192, 3) := by decide +kernel
theorem dX11_init_160 : decode cX11_init 160 = .ok (.newarray .int, 2) := by decide +kernel
theorem dX11_init_162 : decode cX11_init 162 = .ok (.putfield 65, 3) := by decide +kernel
theorem dX11_init_165 : decode cX11_init 165 = .ok (.aload_n 0, 1) := by decide +kernel
theorem dX11_init_166 : decode cX11_init 166 = .ok (.bipush 8, 2) := by decide +kernel
theorem dX11_init_168 : decode cX11_init 168 = .ok (.newarray .int, 2) := by decide +kernel
theorem dX11_init_170 : decode cX11_init 170 = .ok (.putfield 68, 3) := by decide +kernel
theorem dX11_init_173 : decode cX11_init 173 = .ok (.aload_n 0, 1) := by decide +kernel
theorem dX11_init_174 : decode cX11_init 174 = .ok (.bipush 8, 2) := by decide +kernel
theorem dX11_init_176 : decode cX11_init 176 = .ok (.newarray .int, 2) := by decide +kernel
theorem dX11_init_178 : decode cX11_init 178 = .ok (.putfield 71, 3) := by decide +kernel
theorem dX11_init_181 : decode cX11_init 181 = .ok (.aload_n 0, 1) := by decide +kernel
theorem dX11_init_182 : decode cX11_init 182 = .ok (.bipush 8, 2) := by decide +kernel
theorem dX11_init_184 : decode cX11_init 184 = .ok (.newarray .int, 2) := by decide +kernel
theorem dX11_init_186 : decode cX11_init 186 = .ok (.putfield 74, 3) := by decide +kernel
theorem dX11_init_189 : decode cX11_init 189 = .ok (.aload_n 0, 1) := by decide +kernel
theorem dX11_init_190 : decode cX11_init 190 = .ok (.bipush 8, 2) := by decide +kernel
theorem dX11_init_192 : decode cX11_init 192 = .ok (.newarray .int, 2) := by decide +kernel
theorem dX11_init_194 : decode cX11_init 194 = .ok (.putfield 77, 3) := by decide +kernel
theorem dX11_init_197 : decode cX11_init 197 = .ok (.aload_n 0, 1) := by decide +kernel
theorem dX11_init_198 : decode cX11_init 198 = .ok (.bipush 8, 2) := by decide +kernel
theorem dX11_init_200 : decode cX11_init 200 = .ok (.newarray .int, 2) := by decide +kernel
theorem dX11_init_202 : decode cX11_init 202 = .ok (.putfield 80, 3) := by decide +kernel
theorem dX11_init_205 : decode cX11_init 205 = .ok (.aload_n 0, 1) := by decide +kernel
theorem dX11_init_206 : decode cX11_init 206 = .ok (.iconst 4, 1) := by decide +kernel
theorem dX11_init_207 : decode cX11_init 207 = .ok (.newarray .int, 2) := by decide +kernel
theorem dX11_init_209 : decode cX11_init 209 = .ok (.putfield 83, 3) := by decide +kernel
theorem dX11_init_212 : decode cX11_init 212 = .ok (.aload_n 0, 1) := by decide +kernel
theorem dX11_init_213 : decode cX11_init 213 = .ok (.iconst 4, 1) := by decide +kernel
theorem dX11_init_214 : decode cX11_init 214 = .ok (.newarray .int, 2) := by decide +kernel
theorem dX11_init_216 : decode cX11_init 216 = .ok (.putfield 86, 3) := by decide +kernel
theorem dX11_init_219 : decode cX11_init 219 = .ok (.aload_n 0, 1) := by decide +kernel
theorem dX11_init_220 : decode cX11_init 220 = .ok (.sipush 160, 3) := by decide +kernel
theorem dX11_init_223 : decode cX11_init 223 = .ok (.newarray .int, 2) := by decide +kernel
theorem dX11_init_225 : decode cX11_init 225 = .ok (.putfield 89, 3) := by decide +kernel
theorem dX11_init_228 : decode cX11_init 228 = .ok (.iconst 0, 1) := by decide +kernel
theorem dX11_init_229 : decode cX11_init 229 = .ok (.istore_n 1, 1) := by decide +kernel
theorem dX11_init_230 : decode cX11_init 230 = .ok (.iload_n 1, 1) := by decide +kernel
theorem dX11_init_231 : decode cX11_init 231 = .ok (.iconst 4, 1) := by decide +kernel
theorem dX11_init_232 : decode cX11_init 232 = .ok (.if_icmp .ge 17, 3) := by decide +kernel
theorem dX11_init_235 : decode cX11_init 235 = .ok (.aload_n 0, 1) := by decide +kernel
theorem dX11_init_236 : decode cX11_init 236 = .ok (.getfield 83, 3) := by decide +kernel
theorem dX11_init_239 : decode cX11_init 239 = .ok (.iload_n 1, 1) := by decide +kernel
theorem dX11_init_240 : decode cX11_init 240 = .ok (.bipush (-4), 2) := by decide +kernel
theorem dX11_init_242 : decode cX11_init 242 = .ok (.iastore, 1) := by decide +kernel
theorem dX11_init_243 : decode cX11_init 243 = .ok (.iinc 1 1, 3) := by decide +kernel
theorem dX11_init_246 : decode cX11_init 246 = .ok (.goto (-16), 3) := by decide +kernel
theorem dX11_init_249 : decode cX11_init 249 = .ok (.aload_n 0, 1) := by decide +kernel
theorem dX11_init_250 : decode cX11_init 250 = .ok (.invokevirtual 92, 3) := by decide +kernel
theorem dX11_init_253 : decode cX11_init 253 = .ok (.aload_n 0, 1) := by decide +kernel
theorem dX11_init_254 : decode cX11_init 254 = .ok (.invokevirtual 95, 3) := by decide +kernel
theorem dX11_init_257 : decode cX11_init 257 = .ok (.return_, 1) := by decide +kernel
theorem dX11_in_0 : decode cX11_in 0 = .ok (.lload_n 0, 1) := by decide +kernel
theorem dX11_in_1 : decode cX11_in 1 = .ok (.lload_n 2, 1) := by decide +kernel
theorem dX11_in_2 : decode cX11_in 2 = .ok (.lcmp, 1) := by decide +kernel
theorem dX11_in_3 : decode cX11_in 3 = .ok (.ifCond .lt 14, 3) := by decide +kernel
theorem dX11_in_6 : decode cX11_in 6 = .ok (.lload_n 0, 1) := by decide +kernel
theorem dX11_in_7 : decode cX11_in 7 = .ok (.lload 4, 2) := by decide +kernel
theorem dX11_in_9 : decode cX11_in 9 = .ok (.lcmp, 1) := by decide +kernel
theorem dX11_in_10 : decode cX11_in 10 = .ok (.ifCond .gt 7, 3) := by decide +kernel
theorem dX11_in_13 : decode cX11_in 13 = .ok (.iconst 1, 1) := by decide +kernel
theorem dX11_in_14 : decode cX11_in 14 = .ok (.goto 4, 3) := by decide +kernel
theorem dX11_in_17 : decode cX11_in 17 = .ok (.iconst 0, 1) := by decide +kernel
theorem dX11_in_18 : decode cX11_in 18 = .ok (.ireturn, 1) := by decide +kernel
theorem dX11_flag_0 : decode cX11_flag 0 = .ok (.iload_n 0, 1) := by decide +kernel
theorem dX11_flag_1 : decode cX11_flag 1 = .ok (.ifCond .eq 7, 3) := by decide +kernel
theorem dX11_flag_8 : decode cX11_flag 8 = .ok (.iconst 0, 1) := by decide +kernel
theorem dX11_flag_9 : decode cX11_flag 9 = .ok (.ireturn, 1) := by decide +kernel
theorem dX11_countOf_0 : decode cX11_countOf 0 = .ok (.iconst 0, 1) := by decide +kernel
theorem dX11_countOf_1 : decode cX11_countOf 1 = .ok (.istore_n 1, 1) := by decide +kernel
theorem dX11_countOf_2 : decode cX11_countOf 2 = .ok (.iconst 0, 1) := by decide +kernel
theorem dX11_countOf_3 : decode cX11_countOf 3 = .ok (.istore_n 2, 1) := by decide +kernel
theorem dX11_countOf_4 : decode cX11_countOf 4 = .ok (.iload_n 2, 1) := by decide +kernel
theorem dX11_countOf_5 : decode cX11_countOf 5 = .ok (.bipush 9, 2) := by decide +kernel
theorem dX11_countOf_7 : decode cX11_countOf 7 = .ok (.if_icmp .ge 17, 3) := by decide +kernel
theorem dX11_countOf_10 : decode cX11_countOf 10 = .ok (.iload_n 1, 1) := by decide +kernel
theorem dX11_countOf_11 : decode cX11_countOf 11 = .ok (.iload_n 0, 1) := by decide +kernel
theorem dX11_countOf_12 : decode cX11_countOf 12 = .ok (.iload_n 2, 1) := by decide +kernel
theorem dX11_countOf_13 : decode cX11_countOf 13 = .ok (.ishr, 1) := by decide +kernel
theorem dX11_countOf_14 : decode cX11_countOf 14 = .ok (.iconst 1, 1) := by decide +kernel
theorem dX11_countOf_15 : decode cX11_countOf 15 = .ok (.iand, 1) := by decide +kernel
theorem dX11_countOf_16 : decode cX11_countOf 16 = .ok (.iadd, 1) := by decide +kernel
theorem dX11_countOf_17 : decode cX11_countOf 17 = .ok (.istore_n 1, 1) := by decide +kernel
theorem dX11_countOf_18 : decode cX11_countOf 18 = .ok (.iinc 2 1, 3) := by decide +kernel
theorem dX11_countOf_21 : decode cX11_countOf 21 = .ok (.goto (-17), 3) := by decide +kernel
theorem dX11_countOf_24 : decode cX11_countOf 24 = .ok (.iload_n 1, 1) := by decide +kernel
theorem dX11_countOf_25 : decode cX11_countOf 25 = .ok (.ireturn, 1) := by decide +kernel
theorem dX11_firstDraft_0 : decode cX11_firstDraft 0 = .ok (.aload_n 0, 1) := by decide +kernel
theorem dX11_firstDraft_1 : decode cX11_firstDraft 1 = .ok (.iconst 0, 1) := by decide +kernel
theorem dX11_firstDraft_2 : decode cX11_firstDraft 2 = .ok (.putfield 98, 3) := by decide +kernel
theorem dX11_firstDraft_5 : decode cX11_firstDraft 5 = .ok (.aload_n 0, 1) := by decide +kernel
theorem dX11_firstDraft_6 : decode cX11_firstDraft 6 = .ok (.sipush 999, 3) := by decide +kernel
theorem dX11_firstDraft_9 : decode cX11_firstDraft 9 = .ok (.putfield 102, 3) := by decide +kernel
theorem dX11_firstDraft_12 : decode cX11_firstDraft 12 = .ok (.aload_n 0, 1) := by decide +kernel
theorem dX11_firstDraft_13 : decode cX11_firstDraft 13 = .ok (.iconst 0, 1) := by decide +kernel
theorem dX11_firstDraft_14 : decode cX11_firstDraft 14 = .ok (.putfield 105, 3) := by decide +kernel
theorem dX11_firstDraft_17 : decode cX11_firstDraft 17 = .ok (.aload_n 0, 1) := by decide +kernel
theorem dX11_firstDraft_18 : decode cX11_firstDraft 18 = .ok (.iconst 5, 1) := by decide +kernel
theorem dX11_firstDraft_19 : decode cX11_firstDraft 19 = .ok (.putfield 108, 3) := by decide +kernel
theorem dX11_firstDraft_22 : decode cX11_firstDraft 22 = .ok (.aload_n 0, 1) := by decide +kernel
theorem dX11_firstDraft_23 : decode cX11_firstDraft 23 = .ok (.iconst 0, 1) := by decide +kernel
theorem dX11_firstDraft_24 : decode cX11_firstDraft 24 = .ok (.putfield 111, 3) := by decide +kernel
theorem dX11_firstDraft_27 : decode cX11_firstDraft 27 = .ok (.aload_n 0, 1) := by decide +kernel
theorem dX11_firstDraft_28 : decode cX11_firstDraft 28 = .ok (.iconst 0, 1) := by decide +kernel
theorem dX11_firstDraft_29 : decode cX11_firstDraft 29 = .ok (.putfield 115, 3) := by decide +kernel
theorem dX11_firstDraft_32 : decode cX11_firstDraft 32 = .ok (.aload_n 0, 1) := by decide +kernel
theorem dX11_firstDraft_33 : decode cX11_firstDraft 33 = .ok (.iconst 0, 1) := by decide +kernel
theorem dX11_firstDraft_34 : decode cX11_firstDraft 34 = .ok (.putfield 118, 3) := by decide +kernel
theorem dX11_firstDraft_37 : decode cX11_firstDraft 37 = .ok (.return_, 1) := by decide +kernel
theorem dX11_keepDraft_0 : decode cX11_keepDraft 0 = .ok (.aload_n 0, 1) := by decide +kernel
theorem dX11_keepDraft_1 : decode cX11_keepDraft 1 = .ok (.aload_n 0, 1) := by decide +kernel
theorem dX11_keepDraft_2 : decode cX11_keepDraft 2 = .ok (.getfield 98, 3) := by decide +kernel
theorem dX11_keepDraft_5 : decode cX11_keepDraft 5 = .ok (.putfield 121, 3) := by decide +kernel
theorem dX11_keepDraft_8 : decode cX11_keepDraft 8 = .ok (.aload_n 0, 1) := by decide +kernel
theorem dX11_keepDraft_9 : decode cX11_keepDraft 9 = .ok (.aload_n 0, 1) := by decide +kernel
theorem dX11_keepDraft_10 : decode cX11_keepDraft 10 = .ok (.getfield 102, 3) := by decide +kernel
theorem dX11_keepDraft_13 : decode cX11_keepDraft 13 = .ok (.putfield 124, 3) := by decide +kernel
theorem dX11_keepDraft_16 : decode cX11_keepDraft 16 = .ok (.aload_n 0, 1) := by decide +kernel
theorem dX11_keepDraft_17 : decode cX11_keepDraft 17 = .ok (.aload_n 0, 1) := by decide +kernel
theorem dX11_keepDraft_18 : decode cX11_keepDraft 18 = .ok (.getfield 105, 3) := by decide +kernel
theorem dX11_keepDraft_21 : decode cX11_keepDraft 21 = .ok (.putfield 127, 3) := by decide +kernel
theorem dX11_keepDraft_24 : decode cX11_keepDraft 24 = .ok (.aload_n 0, 1) := by decide +kernel
theorem dX11_keepDraft_25 : decode cX11_keepDraft 25 = .ok (.aload_n 0, 1) := by decide +kernel
theorem dX11_keepDraft_26 : decode cX11_keepDraft 26 = .ok (.getfield 108, 3) := by decide +kernel
theorem dX11_keepDraft_29 : decode cX11_keepDraft 29 = .ok (.putfield 130, 3) := by decide +kernel
theorem dX11_keepDraft_32 : decode cX11_keepDraft 32 = .ok (.iconst 0, 1) := by decide +kernel
theorem dX11_keepDraft_33 : decode cX11_keepDraft 33 = .ok (.istore_n 1, 1) := by decide +kernel
theorem dX11_keepDraft_34 : decode cX11_keepDraft 34 = .ok (.iload_n 1, 1) := by decide +kernel
theorem dX11_keepDraft_35 : decode cX11_keepDraft 35 = .ok (.bipush 56, 2) := by decide +kernel
theorem dX11_keepDraft_37 : decode cX11_keepDraft 37 = .ok (.if_icmp .ge 21, 3) := by decide +kernel
theorem dX11_keepDraft_40 : decode cX11_keepDraft 40 = .ok (.aload_n 0, 1) := by decide +kernel
theorem dX11_keepDraft_41 : decode cX11_keepDraft 41 = .ok (.getfield 7, 3) := by decide +kernel
theorem dX11_keepDraft_44 : decode cX11_keepDraft 44 = .ok (.iload_n 1, 1) := by decide +kernel
theorem dX11_keepDraft_45 : decode cX11_keepDraft 45 = .ok (.aload_n 0, 1) := by decide +kernel
theorem dX11_keepDraft_46 : decode cX11_keepDraft 46 = .ok (.getfield 20, 3) := by decide +kernel
theorem dX11_keepDraft_49 : decode cX11_keepDraft 49 = .ok (.iload_n 1, 1) := by decide +kernel
theorem dX11_keepDraft_50 : decode cX11_keepDraft 50 = .ok (.iaload, 1) := by decide +kernel
theorem dX11_keepDraft_51 : decode cX11_keepDraft 51 = .ok (.iastore, 1) := by decide +kernel
theorem dX11_keepDraft_52 : decode cX11_keepDraft 52 = .ok (.iinc 1 1, 3) := by decide +kernel
theorem dX11_keepDraft_55 : decode cX11_keepDraft 55 = .ok (.goto (-21), 3) := by decide +kernel
theorem dX11_keepDraft_58 : decode cX11_keepDraft 58 = .ok (.iconst 0, 1) := by decide +kernel
theorem dX11_keepDraft_59 : decode cX11_keepDraft 59 = .ok (.istore_n 1, 1) := by decide +kernel
theorem dX11_keepDraft_60 : decode cX11_keepDraft 60 = .ok (.iload_n 1, 1) := by decide +kernel
theorem dX11_keepDraft_61 : decode cX11_keepDraft 61 = .ok (.bipush 8, 2) := by decide +kernel
theorem dX11_keepDraft_63 : decode cX11_keepDraft 63 = .ok (.if_icmp .ge 21, 3) := by decide +kernel
theorem dX11_keepDraft_84 : decode cX11_keepDraft 84 = .ok (.iconst 0, 1) := by decide +kernel
theorem dX11_keepDraft_85 : decode cX11_keepDraft 85 = .ok (.istore_n 1, 1) := by decide +kernel
theorem dX11_keepDraft_86 : decode cX11_keepDraft 86 = .ok (.iload_n 1, 1) := by decide +kernel
theorem dX11_keepDraft_87 : decode cX11_keepDraft 87 = .ok (.sipush 4096, 3) := by decide +kernel
theorem dX11_keepDraft_90 : decode cX11_keepDraft 90 = .ok (.if_icmp .ge 21, 3) := by decide +kernel
theorem dX11_keepDraft_93 : decode cX11_keepDraft 93 = .ok (.aload_n 0, 1) := by decide +kernel
theorem dX11_keepDraft_94 : decode cX11_keepDraft 94 = .ok (.getfield 16, 3) := by decide +kernel
theorem dX11_keepDraft_97 : decode cX11_keepDraft 97 = .ok (.iload_n 1, 1) := by decide +kernel
theorem dX11_keepDraft_98 : decode cX11_keepDraft 98 = .ok (.aload_n 0, 1) := by decide +kernel
theorem dX11_keepDraft_99 : decode cX11_keepDraft 99 = .ok (.getfield 26, 3) := by decide +kernel
theorem dX11_keepDraft_102 : decode cX11_keepDraft 102 = .ok (.iload_n 1, 1) := by decide +kernel
theorem dX11_keepDraft_103 : decode cX11_keepDraft 103 = .ok (.baload, 1) := by decide +kernel
theorem dX11_keepDraft_104 : decode cX11_keepDraft 104 = .ok (.bastore, 1) := by decide +kernel
theorem dX11_keepDraft_105 : decode cX11_keepDraft 105 = .ok (.iinc 1 1, 3) := by decide +kernel
theorem dX11_keepDraft_108 : decode cX11_keepDraft 108 = .ok (.goto (-22), 3) := by decide +kernel
theorem dX11_keepDraft_111 : decode cX11_keepDraft 111 = .ok (.aload_n 0, 1) := by decide +kernel
theorem dX11_keepDraft_112 : decode cX11_keepDraft 112 = .ok (.invokevirtual 133, 3) := by decide +kernel
theorem dX11_keepDraft_115 : decode cX11_keepDraft 115 = .ok (.return_, 1) := by decide +kernel
theorem dX11_feed_0 : decode cX11_feed 0 = .ok (.aload_n 0, 1) := by decide +kernel
theorem dX11_feed_1 : decode cX11_feed 1 = .ok (.getfield 136, 3) := by decide +kernel
theorem dX11_feed_4 : decode cX11_feed 4 = .ok (.bipush 8, 2) := by decide +kernel
theorem dX11_feed_6 : decode cX11_feed 6 = .ok (.iadd, 1) := by decide +kernel
theorem dX11_feed_7 : decode cX11_feed 7 = .ok (.sipush 400, 3) := by decide +kernel
theorem dX11_feed_10 : decode cX11_feed 10 = .ok (.if_icmp .le 6, 3) := by decide +kernel
theorem dX11_feed_16 : decode cX11_feed 16 = .ok (.bipush 56, 2) := by decide +kernel
theorem dX11_feed_18 : decode cX11_feed 18 = .ok (.istore_n 3, 1) := by decide +kernel
theorem dX11_feed_19 : decode cX11_feed 19 = .ok (.iload_n 3, 1) := by decide +kernel
theorem dX11_feed_20 : decode cX11_feed 20 = .ok (.ifCond .lt 36, 3) := by decide +kernel
theorem dX11_feed_23 : decode cX11_feed 23 = .ok (.aload_n 0, 1) := by decide +kernel
theorem dX11_feed_24 : decode cX11_feed 24 = .ok (.getfield 44, 3) := by decide +kernel
theorem dX11_feed_27 : decode cX11_feed 27 = .ok (.aload_n 0, 1) := by decide +kernel
theorem dX11_feed_28 : decode cX11_feed 28 = .ok (.getfield 136, 3) := by decide +kernel
theorem dX11_feed_31 : decode cX11_feed 31 = .ok (.lload_n 1, 1) := by decide +kernel
theorem dX11_feed_32 : decode cX11_feed 32 = .ok (.iload_n 3, 1) := by decide +kernel
theorem dX11_feed_33 : decode cX11_feed 33 = .ok (.lshr, 1) := by decide +kernel
theorem dX11_feed_34 : decode cX11_feed 34 = .ok (.ldc2_w 139, 3) := by decide +kernel
theorem dX11_feed_37 : decode cX11_feed 37 = .ok (.land, 1) := by decide +kernel
theorem dX11_feed_38 : decode cX11_feed 38 = .ok (.l2i, 1) := by decide +kernel
theorem dX11_feed_39 : decode cX11_feed 39 = .ok (.iastore, 1) := by decide +kernel
theorem dX11_feed_40 : decode cX11_feed 40 = .ok (.aload_n 0, 1) := by decide +kernel
theorem dX11_feed_41 : decode cX11_feed 41 = .ok (.dup, 1) := by decide +kernel
theorem dX11_feed_42 : decode cX11_feed 42 = .ok (.getfield 136, 3) := by decide +kernel
theorem dX11_feed_45 : decode cX11_feed 45 = .ok (.iconst 1, 1) := by decide +kernel
theorem dX11_feed_46 : decode cX11_feed 46 = .ok (.iadd, 1) := by decide +kernel
theorem dX11_feed_47 : decode cX11_feed 47 = .ok (.putfield 136, 3) := by decide +kernel
theorem dX11_feed_50 : decode cX11_feed 50 = .ok (.iinc 3 (-8), 3) := by decide +kernel
theorem dX11_feed_53 : decode cX11_feed 53 = .ok (.goto (-34), 3) := by decide +kernel
theorem dX11_feed_56 : decode cX11_feed 56 = .ok (.aload_n 0, 1) := by decide +kernel
theorem dX11_feed_57 : decode cX11_feed 57 = .ok (.getfield 136, 3) := by decide +kernel
theorem dX11_feed_60 : decode cX11_feed 60 = .ok (.ireturn, 1) := by decide +kernel
theorem dX11_end_0 : decode cX11_end 0 = .ok (.iload_n 1, 1) := by decide +kernel
theorem dX11_end_1 : decode cX11_end 1 = .ok (.i2l, 1) := by decide +kernel
theorem dX11_end_2 : decode cX11_end 2 = .ok (.lconst 0, 1) := by decide +kernel
theorem dX11_end_3 : decode cX11_end 3 = .ok (.aload_n 0, 1) := by decide +kernel
theorem dX11_end_4 : decode cX11_end 4 = .ok (.getfield 136, 3) := by decide +kernel
theorem dX11_end_7 : decode cX11_end 7 = .ok (.i2l, 1) := by decide +kernel
theorem dX11_end_8 : decode cX11_end 8 = .ok (.invokestatic 141, 3) := by decide +kernel
theorem dX11_end_11 : decode cX11_end 11 = .ok (.ifCond .ne 5, 3) := by decide +kernel
theorem dX11_end_14 : decode cX11_end 14 = .ok (.iconst (-1), 1) := by decide +kernel
theorem dX11_end_15 : decode cX11_end 15 = .ok (.ireturn, 1) := by decide +kernel
theorem dX11_end_16 : decode cX11_end 16 = .ok (.aload_n 0, 1) := by decide +kernel
theorem dX11_end_17 : decode cX11_end 17 = .ok (.getfield 136, 3) := by decide +kernel
theorem dX11_end_20 : decode cX11_end 20 = .ok (.istore_n 2, 1) := by decide +kernel
theorem dX11_end_21 : decode cX11_end 21 = .ok (.aload_n 0, 1) := by decide +kernel
theorem dX11_end_22 : decode cX11_end 22 = .ok (.iload_n 1, 1) := by decide +kernel
theorem dX11_end_23 : decode cX11_end 23 = .ok (.putfield 136, 3) := by decide +kernel
theorem dX11_end_26 : decode cX11_end 26 = .ok (.iload_n 2, 1) := by decide +kernel
theorem dX11_end_27 : decode cX11_end 27 = .ok (.ireturn, 1) := by decide +kernel
theorem dX11_look_0 : decode cX11_look 0 = .ok (.iload_n 1, 1) := by decide +kernel
theorem dX11_look_1 : decode cX11_look 1 = .ok (.aload_n 0, 1) := by decide +kernel
theorem dX11_look_2 : decode cX11_look 2 = .ok (.getfield 136, 3) := by decide +kernel
theorem dX11_look_5 : decode cX11_look 5 = .ok (.if_icmp .ge 12, 3) := by decide +kernel
theorem dX11_look_17 : decode cX11_look 17 = .ok (.iconst (-1), 1) := by decide +kernel
theorem dX11_look_18 : decode cX11_look 18 = .ok (.ireturn, 1) := by decide +kernel
theorem dX11_next_0 : decode cX11_next 0 = .ok (.aload_n 0, 1) := by decide +kernel
theorem dX11_next_1 : decode cX11_next 1 = .ok (.getfield 145, 3) := by decide +kernel
theorem dX11_next_4 : decode cX11_next 4 = .ok (.ifCond .le 4, 3) := by decide +kernel
theorem dX11_next_8 : decode cX11_next 8 = .ok (.aload_n 0, 1) := by decide +kernel
theorem dX11_next_9 : decode cX11_next 9 = .ok (.aload_n 0, 1) := by decide +kernel
theorem dX11_next_10 : decode cX11_next 10 = .ok (.getfield 154, 3) := by decide +kernel
theorem dX11_next_13 : decode cX11_next 13 = .ok (.invokevirtual 157, 3) := by decide +kernel
theorem dX11_next_16 : decode cX11_next 16 = .ok (.bipush 32, 2) := by decide +kernel
theorem dX11_next_18 : decode cX11_next 18 = .ok (.if_icmp .ne 16, 3) := by decide +kernel
theorem dX11_next_34 : decode cX11_next 34 = .ok (.aload_n 0, 1) := by decide +kernel
theorem dX11_next_35 : decode cX11_next 35 = .ok (.aload_n 0, 1) := by decide +kernel
theorem dX11_next_36 : decode cX11_next 36 = .ok (.getfield 154, 3) := by decide +kernel
theorem dX11_next_39 : decode cX11_next 39 = .ok (.putfield 148, 3) := by decide +kernel
theorem dX11_next_42 : decode cX11_next 42 = .ok (.aload_n 0, 1) := by decide +kernel
theorem dX11_next_43 : decode cX11_next 43 = .ok (.aload_n 0, 1) := by decide +kernel
theorem dX11_next_44 : decode cX11_next 44 = .ok (.getfield 154, 3) := by decide +kernel
theorem dX11_next_47 : decode cX11_next 47 = .ok (.invokevirtual 157, 3) := by decide +kernel
theorem dX11_next_50 : decode cX11_next 50 = .ok (.istore_n 1, 1) := by decide +kernel
theorem dX11_next_51 : decode cX11_next 51 = .ok (.iload_n 1, 1) := by decide +kernel
theorem dX11_next_52 : decode cX11_next 52 = .ok (.ifCond .ge 11, 3) := by decide +kernel
theorem dX11_next_55 : decode cX11_next 55 = .ok (.aload_n 0, 1) := by decide +kernel
theorem dX11_next_56 : decode cX11_next 56 = .ok (.iconst 0, 1) := by decide +kernel
theorem dX11_next_57 : decode cX11_next 57 = .ok (.putfield 167, 3) := by decide +kernel
theorem dX11_next_60 : decode cX11_next 60 = .ok (.goto 265, 3) := by decide +kernel
theorem dX11_next_325 : decode cX11_next 325 = .ok (.return_, 1) := by decide +kernel
theorem dX11_text_0 : decode cX11_text 0 = .ok (.iconst 0, 1) := by decide +kernel
theorem dX11_text_1 : decode cX11_text 1 = .ok (.istore_n 1, 1) := by decide +kernel
theorem dX11_text_2 : decode cX11_text 2 = .ok (.aload_n 0, 1) := by decide +kernel
theorem dX11_text_3 : decode cX11_text 3 = .ok (.iconst 0, 1) := by decide +kernel
theorem dX11_text_4 : decode cX11_text 4 = .ok (.putfield 145, 3) := by decide +kernel
theorem dX11_text_7 : decode cX11_text 7 = .ok (.aload_n 0, 1) := by decide +kernel
theorem dX11_text_8 : decode cX11_text 8 = .ok (.iconst 0, 1) := by decide +kernel
theorem dX11_text_9 : decode cX11_text 9 = .ok (.putfield 154, 3) := by decide +kernel
theorem dX11_text_12 : decode cX11_text 12 = .ok (.aload_n 0, 1) := by decide +kernel
theorem dX11_text_13 : decode cX11_text 13 = .ok (.invokevirtual 92, 3) := by decide +kernel
theorem dX11_text_16 : decode cX11_text 16 = .ok (.aload_n 0, 1) := by decide +kernel
theorem dX11_text_17 : decode cX11_text 17 = .ok (.invokevirtual 185, 3) := by decide +kernel
theorem dX11_text_20 : decode cX11_text 20 = .ok (.aload_n 0, 1) := by decide +kernel
theorem dX11_text_21 : decode cX11_text 21 = .ok (.getfield 145, 3) := by decide +kernel
theorem dX11_text_24 : decode cX11_text 24 = .ok (.ifCond .ne 20, 3) := by decide +kernel
theorem dX11_text_27 : decode cX11_text 27 = .ok (.aload_n 0, 1) := by decide +kernel
theorem dX11_text_28 : decode cX11_text 28 = .ok (.getfield 167, 3) := by decide +kernel
theorem dX11_text_31 : decode cX11_text 31 = .ok (.ifCond .eq 13, 3) := by decide +kernel
theorem dX11_text_44 : decode cX11_text 44 = .ok (.iconst 0, 1) := by decide +kernel
theorem dX11_text_45 : decode cX11_text 45 = .ok (.istore_n 2, 1) := by decide +kernel
theorem dX11_text_46 : decode cX11_text 46 = .ok (.iload_n 2, 1) := by decide +kernel
theorem dX11_text_47 : decode cX11_text 47 = .ok (.aload_n 0, 1) := by decide +kernel
theorem dX11_text_48 : decode cX11_text 48 = .ok (.getfield 118, 3) := by decide +kernel
theorem dX11_text_51 : decode cX11_text 51 = .ok (.if_icmp .ge 45, 3) := by decide +kernel
theorem dX11_text_96 : decode cX11_text 96 = .ok (.aload_n 0, 1) := by decide +kernel
theorem dX11_text_97 : decode cX11_text 97 = .ok (.iconst 0, 1) := by decide +kernel
theorem dX11_text_98 : decode cX11_text 98 = .ok (.putfield 136, 3) := by decide +kernel
theorem dX11_text_101 : decode cX11_text 101 = .ok (.aload_n 0, 1) := by decide +kernel
theorem dX11_text_102 : decode cX11_text 102 = .ok (.getfield 145, 3) := by decide +kernel
theorem dX11_text_105 : decode cX11_text 105 = .ok (.ifCond .le 11, 3) := by decide +kernel
theorem dX11_text_116 : decode cX11_text 116 = .ok (.aload_n 0, 1) := by decide +kernel
theorem dX11_text_117 : decode cX11_text 117 = .ok (.invokevirtual 95, 3) := by decide +kernel
theorem dX11_text_120 : decode cX11_text 120 = .ok (.iload_n 1, 1) := by decide +kernel
theorem dX11_text_121 : decode cX11_text 121 = .ok (.ireturn, 1) := by decide +kernel
theorem dX11_fault_0 : decode cX11_fault 0 = .ok (.aload_n 0, 1) := by decide +kernel
theorem dX11_fault_1 : decode cX11_fault 1 = .ok (.getfield 145, 3) := by decide +kernel
theorem dX11_fault_4 : decode cX11_fault 4 = .ok (.ireturn, 1) := by decide +kernel
theorem dX11_isRail_0 : decode cX11_isRail 0 = .ok (.iload_n 1, 1) := by decide +kernel
theorem dX11_isRail_1 : decode cX11_isRail 1 = .ok (.i2l, 1) := by decide +kernel
theorem dX11_isRail_2 : decode cX11_isRail 2 = .ok (.lconst 0, 1) := by decide +kernel
theorem dX11_isRail_3 : decode cX11_isRail 3 = .ok (.aload_n 0, 1) := by decide +kernel
theorem dX11_isRail_4 : decode cX11_isRail 4 = .ok (.getfield 121, 3) := by decide +kernel
theorem dX11_isRail_7 : decode cX11_isRail 7 = .ok (.iconst 1, 1) := by decide +kernel
theorem dX11_isRail_8 : decode cX11_isRail 8 = .ok (.isub, 1) := by decide +kernel
theorem dX11_isRail_9 : decode cX11_isRail 9 = .ok (.i2l, 1) := by decide +kernel
theorem dX11_isRail_10 : decode cX11_isRail 10 = .ok (.invokestatic 141, 3) := by decide +kernel
theorem dX11_isRail_13 : decode cX11_isRail 13 = .ok (.ireturn, 1) := by decide +kernel
theorem dX11_areRails_0 : decode cX11_areRails 0 = .ok (.iload_n 1, 1) := by decide +kernel
theorem dX11_areRails_1 : decode cX11_areRails 1 = .ok (.i2l, 1) := by decide +kernel
theorem dX11_areRails_2 : decode cX11_areRails 2 = .ok (.lconst 0, 1) := by decide +kernel
theorem dX11_areRails_3 : decode cX11_areRails 3 = .ok (.iconst 1, 1) := by decide +kernel
theorem dX11_areRails_4 : decode cX11_areRails 4 = .ok (.aload_n 0, 1) := by decide +kernel
theorem dX11_areRails_5 : decode cX11_areRails 5 = .ok (.getfield 121, 3) := by decide +kernel
theorem dX11_areRails_8 : decode cX11_areRails 8 = .ok (.ishl, 1) := by decide +kernel
theorem dX11_areRails_9 : decode cX11_areRails 9 = .ok (.iconst 1, 1) := by decide +kernel
theorem dX11_areRails_10 : decode cX11_areRails 10 = .ok (.isub, 1) := by decide +kernel
theorem dX11_areRails_11 : decode cX11_areRails 11 = .ok (.i2l, 1) := by decide +kernel
theorem dX11_areRails_12 : decode cX11_areRails 12 = .ok (.invokestatic 141, 3) := by decide +kernel
theorem dX11_areRails_15 : decode cX11_areRails 15 = .ok (.ireturn, 1) := by decide +kernel
theorem dX11_rail_0 : decode cX11_rail 0 = .ok (.aload_n 0, 1) := by decide +kernel
theorem dX11_rail_1 : decode cX11_rail 1 = .ok (.iload_n 1, 1) := by decide +kernel
theorem dX11_rail_2 : decode cX11_rail 2 = .ok (.invokevirtual 248, 3) := by decide +kernel
theorem dX11_rail_5 : decode cX11_rail 5 = .ok (.ifCond .eq 15, 3) := by decide +kernel
theorem dX11_rail_20 : decode cX11_rail 20 = .ok (.iconst (-1), 1) := by decide +kernel
theorem dX11_rail_21 : decode cX11_rail 21 = .ok (.goto 24, 3) := by decide +kernel
theorem dX11_rail_45 : decode cX11_rail 45 = .ok (.ireturn, 1) := by decide +kernel
theorem dX11_rule_0 : decode cX11_rule 0 = .ok (.iload_n 1, 1) := by decide +kernel
theorem dX11_rule_1 : decode cX11_rule 1 = .ok (.ifCond .ne 10, 3) := by decide +kernel
theorem dX11_rule_4 : decode cX11_rule 4 = .ok (.aload_n 0, 1) := by decide +kernel
theorem dX11_rule_5 : decode cX11_rule 5 = .ok (.getfield 124, 3) := by decide +kernel
theorem dX11_rule_8 : decode cX11_rule 8 = .ok (.goto 40, 3) := by decide +kernel
theorem dX11_rule_11 : decode cX11_rule 11 = .ok (.iload_n 1, 1) := by decide +kernel
theorem dX11_rule_12 : decode cX11_rule 12 = .ok (.iconst 1, 1) := by decide +kernel
theorem dX11_rule_13 : decode cX11_rule 13 = .ok (.if_icmp .ne 10, 3) := by decide +kernel
theorem dX11_rule_16 : decode cX11_rule 16 = .ok (.aload_n 0, 1) := by decide +kernel
theorem dX11_rule_17 : decode cX11_rule 17 = .ok (.getfield 127, 3) := by decide +kernel
theorem dX11_rule_20 : decode cX11_rule 20 = .ok (.goto 28, 3) := by decide +kernel
theorem dX11_rule_23 : decode cX11_rule 23 = .ok (.iload_n 1, 1) := by decide +kernel
theorem dX11_rule_24 : decode cX11_rule 24 = .ok (.iconst 2, 1) := by decide +kernel
theorem dX11_rule_25 : decode cX11_rule 25 = .ok (.if_icmp .ne 10, 3) := by decide +kernel
theorem dX11_rule_28 : decode cX11_rule 28 = .ok (.aload_n 0, 1) := by decide +kernel
theorem dX11_rule_29 : decode cX11_rule 29 = .ok (.getfield 130, 3) := by decide +kernel
theorem dX11_rule_32 : decode cX11_rule 32 = .ok (.goto 16, 3) := by decide +kernel
theorem dX11_rule_35 : decode cX11_rule 35 = .ok (.iload_n 1, 1) := by decide +kernel
theorem dX11_rule_36 : decode cX11_rule 36 = .ok (.iconst 3, 1) := by decide +kernel
theorem dX11_rule_37 : decode cX11_rule 37 = .ok (.if_icmp .ne 10, 3) := by decide +kernel
theorem dX11_rule_40 : decode cX11_rule 40 = .ok (.aload_n 0, 1) := by decide +kernel
theorem dX11_rule_41 : decode cX11_rule 41 = .ok (.getfield 121, 3) := by decide +kernel
theorem dX11_rule_44 : decode cX11_rule 44 = .ok (.goto 4, 3) := by decide +kernel
theorem dX11_rule_47 : decode cX11_rule 47 = .ok (.iconst (-1), 1) := by decide +kernel
theorem dX11_rule_48 : decode cX11_rule 48 = .ok (.ireturn, 1) := by decide +kernel
theorem dX11_holds_0 : decode cX11_holds 0 = .ok (.aload_n 0, 1) := by decide +kernel
theorem dX11_holds_1 : decode cX11_holds 1 = .ok (.iload_n 1, 1) := by decide +kernel
theorem dX11_holds_2 : decode cX11_holds 2 = .ok (.invokevirtual 248, 3) := by decide +kernel
theorem dX11_holds_5 : decode cX11_holds 5 = .ok (.ifCond .eq 27, 3) := by decide +kernel
theorem dX11_holds_32 : decode cX11_holds 32 = .ok (.iconst (-1), 1) := by decide +kernel
theorem dX11_holds_33 : decode cX11_holds 33 = .ok (.ireturn, 1) := by decide +kernel
theorem dX11_words_0 : decode cX11_words 0 = .ok (.aload_n 0, 1) := by decide +kernel
theorem dX11_words_1 : decode cX11_words 1 = .ok (.iload_n 1, 1) := by decide +kernel
theorem dX11_words_2 : decode cX11_words 2 = .ok (.invokevirtual 248, 3) := by decide +kernel
theorem dX11_words_5 : decode cX11_words 5 = .ok (.ifCond .eq 13, 3) := by decide +kernel
theorem dX11_words_18 : decode cX11_words 18 = .ok (.iconst (-1), 1) := by decide +kernel
theorem dX11_words_19 : decode cX11_words 19 = .ok (.ireturn, 1) := by decide +kernel
theorem dX11_begins_0 : decode cX11_begins 0 = .ok (.aload_n 0, 1) := by decide +kernel
theorem dX11_begins_1 : decode cX11_begins 1 = .ok (.iconst 0, 1) := by decide +kernel
theorem dX11_begins_2 : decode cX11_begins 2 = .ok (.putfield 267, 3) := by decide +kernel
theorem dX11_begins_5 : decode cX11_begins 5 = .ok (.aload_n 0, 1) := by decide +kernel
theorem dX11_begins_6 : decode cX11_begins 6 = .ok (.iconst 0, 1) := by decide +kernel
theorem dX11_begins_7 : decode cX11_begins 7 = .ok (.putfield 270, 3) := by decide +kernel
theorem dX11_begins_10 : decode cX11_begins 10 = .ok (.aload_n 0, 1) := by decide +kernel
theorem dX11_begins_11 : decode cX11_begins 11 = .ok (.iconst 0, 1) := by decide +kernel
theorem dX11_begins_12 : decode cX11_begins 12 = .ok (.putfield 273, 3) := by decide +kernel
theorem dX11_begins_15 : decode cX11_begins 15 = .ok (.aload_n 0, 1) := by decide +kernel
theorem dX11_begins_16 : decode cX11_begins 16 = .ok (.aload_n 0, 1) := by decide +kernel
theorem dX11_begins_17 : decode cX11_begins 17 = .ok (.getfield 127, 3) := by decide +kernel
theorem dX11_begins_20 : decode cX11_begins 20 = .ok (.putfield 276, 3) := by decide +kernel
theorem dX11_begins_23 : decode cX11_begins 23 = .ok (.aload_n 0, 1) := by decide +kernel
theorem dX11_begins_24 : decode cX11_begins 24 = .ok (.iconst 0, 1) := by decide +kernel
theorem dX11_begins_25 : decode cX11_begins 25 = .ok (.putfield 279, 3) := by decide +kernel
theorem dX11_begins_28 : decode cX11_begins 28 = .ok (.aload_n 0, 1) := by decide +kernel
theorem dX11_begins_29 : decode cX11_begins 29 = .ok (.iconst 0, 1) := by decide +kernel
theorem dX11_begins_30 : decode cX11_begins 30 = .ok (.putfield 282, 3) := by decide +kernel
theorem dX11_begins_33 : decode cX11_begins 33 = .ok (.aload_n 0, 1) := by decide +kernel
theorem dX11_begins_34 : decode cX11_begins 34 = .ok (.iconst 0, 1) := by decide +kernel
theorem dX11_begins_35 : decode cX11_begins 35 = .ok (.putfield 285, 3) := by decide +kernel
theorem dX11_begins_38 : decode cX11_begins 38 = .ok (.aload_n 0, 1) := by decide +kernel
theorem dX11_begins_39 : decode cX11_begins 39 = .ok (.iconst 0, 1) := by decide +kernel
theorem dX11_begins_40 : decode cX11_begins 40 = .ok (.putfield 288, 3) := by decide +kernel
theorem dX11_begins_43 : decode cX11_begins 43 = .ok (.iconst 0, 1) := by decide +kernel
theorem dX11_begins_44 : decode cX11_begins 44 = .ok (.istore_n 1, 1) := by decide +kernel
theorem dX11_begins_45 : decode cX11_begins 45 = .ok (.iload_n 1, 1) := by decide +kernel
theorem dX11_begins_46 : decode cX11_begins 46 = .ok (.bipush 8, 2) := by decide +kernel
theorem dX11_begins_48 : decode cX11_begins 48 = .ok (.if_icmp .ge 68, 3) := by decide +kernel
theorem dX11_begins_51 : decode cX11_begins 51 = .ok (.aload_n 0, 1) := by decide +kernel
theorem dX11_begins_52 : decode cX11_begins 52 = .ok (.getfield 47, 3) := by decide +kernel
theorem dX11_begins_55 : decode cX11_begins 55 = .ok (.iload_n 1, 1) := by decide +kernel
theorem dX11_begins_56 : decode cX11_begins 56 = .ok (.iconst 0, 1) := by decide +kernel
theorem dX11_begins_57 : decode cX11_begins 57 = .ok (.iastore, 1) := by decide +kernel
theorem dX11_begins_58 : decode cX11_begins 58 = .ok (.aload_n 0, 1) := by decide +kernel
theorem dX11_begins_59 : decode cX11_begins 59 = .ok (.getfield 50, 3) := by decide +kernel
theorem dX11_begins_62 : decode cX11_begins 62 = .ok (.iload_n 1, 1) := by decide +kernel
theorem dX11_begins_63 : decode cX11_begins 63 = .ok (.iconst 0, 1) := by decide +kernel
theorem dX11_begins_64 : decode cX11_begins 64 = .ok (.iastore, 1) := by decide +kernel
theorem dX11_begins_65 : decode cX11_begins 65 = .ok (.aload_n 0, 1) := by decide +kernel
theorem dX11_begins_66 : decode cX11_begins 66 = .ok (.getfield 53, 3) := by decide +kernel
theorem dX11_begins_69 : decode cX11_begins 69 = .ok (.iload_n 1, 1) := by decide +kernel
theorem dX11_begins_70 : decode cX11_begins 70 = .ok (.iconst 0, 1) := by decide +kernel
theorem dX11_begins_71 : decode cX11_begins 71 = .ok (.iastore, 1) := by decide +kernel
theorem dX11_begins_72 : decode cX11_begins 72 = .ok (.aload_n 0, 1) := by decide +kernel
theorem dX11_begins_73 : decode cX11_begins 73 = .ok (.getfield 56, 3) := by decide +kernel
theorem dX11_begins_76 : decode cX11_begins 76 = .ok (.iload_n 1, 1) := by decide +kernel
theorem dX11_begins_77 : decode cX11_begins 77 = .ok (.iconst 0, 1) := by decide +kernel
theorem dX11_begins_78 : decode cX11_begins 78 = .ok (.bastore, 1) := by decide +kernel
theorem dX11_begins_79 : decode cX11_begins 79 = .ok (.aload_n 0, 1) := by decide +kernel
theorem dX11_begins_80 : decode cX11_begins 80 = .ok (.getfield 59, 3) := by decide +kernel
theorem dX11_begins_83 : decode cX11_begins 83 = .ok (.iload_n 1, 1) := by decide +kernel
theorem dX11_begins_84 : decode cX11_begins 84 = .ok (.iload_n 1, 1) := by decide +kernel
theorem dX11_begins_85 : decode cX11_begins 85 = .ok (.aload_n 0, 1) := by decide +kernel
theorem dX11_begins_86 : decode cX11_begins 86 = .ok (.getfield 121, 3) := by decide +kernel
theorem dX11_begins_89 : decode cX11_begins 89 = .ok (.if_icmp .ge 12, 3) := by decide +kernel
theorem dX11_begins_101 : decode cX11_begins 101 = .ok (.iconst 0, 1) := by decide +kernel
theorem dX11_begins_102 : decode cX11_begins 102 = .ok (.iastore, 1) := by decide +kernel
theorem dX11_begins_103 : decode cX11_begins 103 = .ok (.aload_n 0, 1) := by decide +kernel
theorem dX11_begins_104 : decode cX11_begins 104 = .ok (.getfield 62, 3) := by decide +kernel
theorem dX11_begins_107 : decode cX11_begins 107 = .ok (.iload_n 1, 1) := by decide +kernel
theorem dX11_begins_108 : decode cX11_begins 108 = .ok (.iconst 0, 1) := by decide +kernel
theorem dX11_begins_109 : decode cX11_begins 109 = .ok (.iastore, 1) := by decide +kernel
theorem dX11_begins_110 : decode cX11_begins 110 = .ok (.iinc 1 1, 3) := by decide +kernel
theorem dX11_begins_113 : decode cX11_begins 113 = .ok (.goto (-68), 3) := by decide +kernel
theorem dX11_begins_116 : decode cX11_begins 116 = .ok (.return_, 1) := by decide +kernel
theorem dX11_key_0 : decode cX11_key 0 = .ok (.aload_n 0, 1) := by decide +kernel
theorem dX11_key_1 : decode cX11_key 1 = .ok (.getfield 270, 3) := by decide +kernel
theorem dX11_key_4 : decode cX11_key 4 = .ok (.invokestatic 260, 3) := by decide +kernel
theorem dX11_key_7 : decode cX11_key 7 = .ok (.istore_n 2, 1) := by decide +kernel
theorem dX11_key_8 : decode cX11_key 8 = .ok (.aload_n 0, 1) := by decide +kernel
theorem dX11_key_9 : decode cX11_key 9 = .ok (.iload_n 1, 1) := by decide +kernel
theorem dX11_key_10 : decode cX11_key 10 = .ok (.putfield 270, 3) := by decide +kernel
theorem dX11_key_13 : decode cX11_key 13 = .ok (.iload_n 1, 1) := by decide +kernel
theorem dX11_key_14 : decode cX11_key 14 = .ok (.ifCond .ne 32, 3) := by decide +kernel
theorem dX11_key_17 : decode cX11_key 17 = .ok (.aload_n 0, 1) := by decide +kernel
theorem dX11_key_18 : decode cX11_key 18 = .ok (.aload_n 0, 1) := by decide +kernel
theorem dX11_key_19 : decode cX11_key 19 = .ok (.getfield 273, 3) := by decide +kernel
theorem dX11_key_22 : decode cX11_key 22 = .ok (.bipush (-4), 2) := by decide +kernel
theorem dX11_key_24 : decode cX11_key 24 = .ok (.if_icmp .ne 7, 3) := by decide +kernel
theorem dX11_key_31 : decode cX11_key 31 = .ok (.aload_n 0, 1) := by decide +kernel
theorem dX11_key_32 : decode cX11_key 32 = .ok (.getfield 273, 3) := by decide +kernel
theorem dX11_key_35 : decode cX11_key 35 = .ok (.putfield 273, 3) := by decide +kernel
theorem dX11_key_38 : decode cX11_key 38 = .ok (.aload_n 0, 1) := by decide +kernel
theorem dX11_key_39 : decode cX11_key 39 = .ok (.aload_n 0, 1) := by decide +kernel
theorem dX11_key_40 : decode cX11_key 40 = .ok (.getfield 127, 3) := by decide +kernel
theorem dX11_key_43 : decode cX11_key 43 = .ok (.putfield 276, 3) := by decide +kernel
theorem dX11_key_46 : decode cX11_key 46 = .ok (.iload_n 2, 1) := by decide +kernel
theorem dX11_key_47 : decode cX11_key 47 = .ok (.ireturn, 1) := by decide +kernel
theorem dX11_dead_0 : decode cX11_dead 0 = .ok (.aload_n 0, 1) := by decide +kernel
theorem dX11_dead_1 : decode cX11_dead 1 = .ok (.iload_n 1, 1) := by decide +kernel
theorem dX11_dead_2 : decode cX11_dead 2 = .ok (.invokevirtual 248, 3) := by decide +kernel
theorem dX11_dead_5 : decode cX11_dead 5 = .ok (.ifCond .ne 5, 3) := by decide +kernel
theorem dX11_dead_8 : decode cX11_dead 8 = .ok (.iconst (-1), 1) := by decide +kernel
theorem dX11_dead_9 : decode cX11_dead 9 = .ok (.ireturn, 1) := by decide +kernel
theorem dX11_time_0 : decode cX11_time 0 = .ok (.aload_n 0, 1) := by decide +kernel
theorem dX11_time_1 : decode cX11_time 1 = .ok (.iload_n 1, 1) := by decide +kernel
theorem dX11_time_2 : decode cX11_time 2 = .ok (.invokevirtual 248, 3) := by decide +kernel
theorem dX11_time_5 : decode cX11_time 5 = .ok (.ifCond .eq 25, 3) := by decide +kernel
theorem dX11_time_30 : decode cX11_time 30 = .ok (.iconst (-1), 1) := by decide +kernel
theorem dX11_time_31 : decode cX11_time 31 = .ok (.ireturn, 1) := by decide +kernel
theorem dX11_allIn_0 : decode cX11_allIn 0 = .ok (.iconst 0, 1) := by decide +kernel
theorem dX11_allIn_1 : decode cX11_allIn 1 = .ok (.istore_n 2, 1) := by decide +kernel
theorem dX11_allIn_2 : decode cX11_allIn 2 = .ok (.iconst 0, 1) := by decide +kernel
theorem dX11_allIn_3 : decode cX11_allIn 3 = .ok (.istore_n 3, 1) := by decide +kernel
theorem dX11_allIn_4 : decode cX11_allIn 4 = .ok (.iload_n 3, 1) := by decide +kernel
theorem dX11_allIn_5 : decode cX11_allIn 5 = .ok (.aload_n 0, 1) := by decide +kernel
theorem dX11_allIn_6 : decode cX11_allIn 6 = .ok (.getfield 121, 3) := by decide +kernel
theorem dX11_allIn_9 : decode cX11_allIn 9 = .ok (.if_icmp .ge 29, 3) := by decide +kernel
theorem dX11_allIn_38 : decode cX11_allIn 38 = .ok (.iload_n 2, 1) := by decide +kernel
theorem dX11_allIn_39 : decode cX11_allIn 39 = .ok (.ireturn, 1) := by decide +kernel
theorem dX11_round_0 : decode cX11_round 0 = .ok (.aload_n 0, 1) := by decide +kernel
theorem dX11_round_1 : decode cX11_round 1 = .ok (.iconst 3, 1) := by decide +kernel
theorem dX11_round_2 : decode cX11_round 2 = .ok (.invokevirtual 291, 3) := by decide +kernel
theorem dX11_round_5 : decode cX11_round 5 = .ok (.aload_n 0, 1) := by decide +kernel
theorem dX11_round_6 : decode cX11_round 6 = .ok (.getfield 270, 3) := by decide +kernel
theorem dX11_round_9 : decode cX11_round 9 = .ok (.ifCond .eq 9, 3) := by decide +kernel
theorem dX11_round_18 : decode cX11_round 18 = .ok (.iconst 0, 1) := by decide +kernel
theorem dX11_round_19 : decode cX11_round 19 = .ok (.ior, 1) := by decide +kernel
theorem dX11_round_20 : decode cX11_round 20 = .ok (.istore_n 1, 1) := by decide +kernel
theorem dX11_round_21 : decode cX11_round 21 = .ok (.iconst 0, 1) := by decide +kernel
theorem dX11_round_22 : decode cX11_round 22 = .ok (.istore_n 2, 1) := by decide +kernel
theorem dX11_round_23 : decode cX11_round 23 = .ok (.iconst 0, 1) := by decide +kernel
theorem dX11_round_24 : decode cX11_round 24 = .ok (.istore_n 3, 1) := by decide +kernel
theorem dX11_round_25 : decode cX11_round 25 = .ok (.iload_n 3, 1) := by decide +kernel
theorem dX11_round_26 : decode cX11_round 26 = .ok (.aload_n 0, 1) := by decide +kernel
theorem dX11_round_27 : decode cX11_round 27 = .ok (.getfield 121, 3) := by decide +kernel
theorem dX11_round_30 : decode cX11_round 30 = .ok (.if_icmp .ge 110, 3) := by decide +kernel
theorem dX11_round_140 : decode cX11_round 140 = .ok (.iload_n 2, 1) := by decide +kernel
theorem dX11_round_141 : decode cX11_round 141 = .ok (.ireturn, 1) := by decide +kernel
theorem dX11_settles_0 : decode cX11_settles 0 = .ok (.iconst 1, 1) := by decide +kernel
theorem dX11_settles_1 : decode cX11_settles 1 = .ok (.istore_n 1, 1) := by decide +kernel
theorem dX11_settles_2 : decode cX11_settles 2 = .ok (.iload_n 1, 1) := by decide +kernel
theorem dX11_settles_3 : decode cX11_settles 3 = .ok (.ifCond .eq 11, 3) := by decide +kernel
theorem dX11_settles_6 : decode cX11_settles 6 = .ok (.aload_n 0, 1) := by decide +kernel
theorem dX11_settles_7 : decode cX11_settles 7 = .ok (.invokevirtual 302, 3) := by decide +kernel
theorem dX11_settles_10 : decode cX11_settles 10 = .ok (.istore_n 1, 1) := by decide +kernel
theorem dX11_settles_11 : decode cX11_settles 11 = .ok (.goto (-9), 3) := by decide +kernel
theorem dX11_settles_14 : decode cX11_settles 14 = .ok (.return_, 1) := by decide +kernel
theorem dX11_drawnOf_0 : decode cX11_drawnOf 0 = .ok (.iconst 0, 1) := by decide +kernel
theorem dX11_drawnOf_1 : decode cX11_drawnOf 1 = .ok (.istore_n 3, 1) := by decide +kernel
theorem dX11_drawnOf_2 : decode cX11_drawnOf 2 = .ok (.iconst 0, 1) := by decide +kernel
theorem dX11_drawnOf_3 : decode cX11_drawnOf 3 = .ok (.istore 4, 2) := by decide +kernel
theorem dX11_drawnOf_5 : decode cX11_drawnOf 5 = .ok (.iload 4, 2) := by decide +kernel
theorem dX11_drawnOf_7 : decode cX11_drawnOf 7 = .ok (.aload_n 0, 1) := by decide +kernel
theorem dX11_drawnOf_8 : decode cX11_drawnOf 8 = .ok (.getfield 121, 3) := by decide +kernel
theorem dX11_drawnOf_11 : decode cX11_drawnOf 11 = .ok (.if_icmp .ge 53, 3) := by decide +kernel
theorem dX11_drawnOf_64 : decode cX11_drawnOf 64 = .ok (.iload_n 3, 1) := by decide +kernel
theorem dX11_drawnOf_65 : decode cX11_drawnOf 65 = .ok (.ireturn, 1) := by decide +kernel
theorem dX11_tripNow_0 : decode cX11_tripNow 0 = .ok (.iconst 0, 1) := by decide +kernel
theorem dX11_tripNow_1 : decode cX11_tripNow 1 = .ok (.istore_n 1, 1) := by decide +kernel
theorem dX11_tripNow_2 : decode cX11_tripNow 2 = .ok (.iconst 0, 1) := by decide +kernel
theorem dX11_tripNow_3 : decode cX11_tripNow 3 = .ok (.istore_n 2, 1) := by decide +kernel
theorem dX11_tripNow_4 : decode cX11_tripNow 4 = .ok (.iload_n 2, 1) := by decide +kernel
theorem dX11_tripNow_5 : decode cX11_tripNow 5 = .ok (.aload_n 0, 1) := by decide +kernel
theorem dX11_tripNow_6 : decode cX11_tripNow 6 = .ok (.getfield 121, 3) := by decide +kernel
theorem dX11_tripNow_9 : decode cX11_tripNow 9 = .ok (.if_icmp .ge 65, 3) := by decide +kernel
theorem dX11_tripNow_74 : decode cX11_tripNow 74 = .ok (.aload_n 0, 1) := by decide +kernel
theorem dX11_tripNow_75 : decode cX11_tripNow 75 = .ok (.getfield 279, 3) := by decide +kernel
theorem dX11_tripNow_78 : decode cX11_tripNow 78 = .ok (.aload_n 0, 1) := by decide +kernel
theorem dX11_tripNow_79 : decode cX11_tripNow 79 = .ok (.getfield 124, 3) := by decide +kernel
theorem dX11_tripNow_82 : decode cX11_tripNow 82 = .ok (.if_icmp .le 7, 3) := by decide +kernel
theorem dX11_tripNow_89 : decode cX11_tripNow 89 = .ok (.iload_n 1, 1) := by decide +kernel
theorem dX11_tripNow_90 : decode cX11_tripNow 90 = .ok (.ifCond .eq 7, 3) := by decide +kernel
theorem dX11_tripNow_97 : decode cX11_tripNow 97 = .ok (.iconst 0, 1) := by decide +kernel
theorem dX11_tripNow_98 : decode cX11_tripNow 98 = .ok (.ireturn, 1) := by decide +kernel
theorem dX11_aTick_0 : decode cX11_aTick 0 = .ok (.aload_n 0, 1) := by decide +kernel
theorem dX11_aTick_1 : decode cX11_aTick 1 = .ok (.invokevirtual 306, 3) := by decide +kernel
theorem dX11_aTick_4 : decode cX11_aTick 4 = .ok (.aload_n 0, 1) := by decide +kernel
theorem dX11_aTick_5 : decode cX11_aTick 5 = .ok (.aload_n 0, 1) := by decide +kernel
theorem dX11_aTick_6 : decode cX11_aTick 6 = .ok (.aload_n 0, 1) := by decide +kernel
theorem dX11_aTick_7 : decode cX11_aTick 7 = .ok (.iconst 3, 1) := by decide +kernel
theorem dX11_aTick_8 : decode cX11_aTick 8 = .ok (.invokevirtual 291, 3) := by decide +kernel
theorem dX11_aTick_11 : decode cX11_aTick 11 = .ok (.aload_n 0, 1) := by decide +kernel
theorem dX11_aTick_12 : decode cX11_aTick 12 = .ok (.iconst 2, 1) := by decide +kernel
theorem dX11_aTick_13 : decode cX11_aTick 13 = .ok (.invokevirtual 291, 3) := by decide +kernel
theorem dX11_aTick_16 : decode cX11_aTick 16 = .ok (.invokevirtual 309, 3) := by decide +kernel
theorem dX11_aTick_19 : decode cX11_aTick 19 = .ok (.putfield 279, 3) := by decide +kernel
theorem dX11_aTick_22 : decode cX11_aTick 22 = .ok (.aload_n 0, 1) := by decide +kernel
theorem dX11_aTick_23 : decode cX11_aTick 23 = .ok (.aload_n 0, 1) := by decide +kernel
theorem dX11_aTick_24 : decode cX11_aTick 24 = .ok (.getfield 279, 3) := by decide +kernel
theorem dX11_aTick_27 : decode cX11_aTick 27 = .ok (.aload_n 0, 1) := by decide +kernel
theorem dX11_aTick_28 : decode cX11_aTick 28 = .ok (.getfield 282, 3) := by decide +kernel
theorem dX11_aTick_31 : decode cX11_aTick 31 = .ok (.if_icmp .le 10, 3) := by decide +kernel
theorem dX11_aTick_41 : decode cX11_aTick 41 = .ok (.aload_n 0, 1) := by decide +kernel
theorem dX11_aTick_42 : decode cX11_aTick 42 = .ok (.getfield 282, 3) := by decide +kernel
theorem dX11_aTick_45 : decode cX11_aTick 45 = .ok (.putfield 282, 3) := by decide +kernel
theorem dX11_aTick_48 : decode cX11_aTick 48 = .ok (.aload_n 0, 1) := by decide +kernel
theorem dX11_aTick_49 : decode cX11_aTick 49 = .ok (.invokevirtual 312, 3) := by decide +kernel
theorem dX11_aTick_52 : decode cX11_aTick 52 = .ok (.istore_n 1, 1) := by decide +kernel
theorem dX11_aTick_53 : decode cX11_aTick 53 = .ok (.iload_n 1, 1) := by decide +kernel
theorem dX11_aTick_54 : decode cX11_aTick 54 = .ok (.ifCond .le 67, 3) := by decide +kernel
theorem dX11_aTick_121 : decode cX11_aTick 121 = .ok (.iconst 0, 1) := by decide +kernel
theorem dX11_aTick_122 : decode cX11_aTick 122 = .ok (.istore_n 2, 1) := by decide +kernel
theorem dX11_aTick_123 : decode cX11_aTick 123 = .ok (.iload_n 2, 1) := by decide +kernel
theorem dX11_aTick_124 : decode cX11_aTick 124 = .ok (.aload_n 0, 1) := by decide +kernel
theorem dX11_aTick_125 : decode cX11_aTick 125 = .ok (.getfield 121, 3) := by decide +kernel
theorem dX11_aTick_128 : decode cX11_aTick 128 = .ok (.if_icmp .ge 29, 3) := by decide +kernel
theorem dX11_aTick_157 : decode cX11_aTick 157 = .ok (.aload_n 0, 1) := by decide +kernel
theorem dX11_aTick_158 : decode cX11_aTick 158 = .ok (.dup, 1) := by decide +kernel
theorem dX11_aTick_159 : decode cX11_aTick 159 = .ok (.getfield 273, 3) := by decide +kernel
theorem dX11_aTick_162 : decode cX11_aTick 162 = .ok (.aload_n 0, 1) := by decide +kernel
theorem dX11_aTick_163 : decode cX11_aTick 163 = .ok (.getfield 273, 3) := by decide +kernel
theorem dX11_aTick_166 : decode cX11_aTick 166 = .ok (.ifCond .le 7, 3) := by decide +kernel
theorem dX11_aTick_173 : decode cX11_aTick 173 = .ok (.iconst 0, 1) := by decide +kernel
theorem dX11_aTick_174 : decode cX11_aTick 174 = .ok (.isub, 1) := by decide +kernel
theorem dX11_aTick_175 : decode cX11_aTick 175 = .ok (.putfield 273, 3) := by decide +kernel
theorem dX11_aTick_178 : decode cX11_aTick 178 = .ok (.aload_n 0, 1) := by decide +kernel
theorem dX11_aTick_179 : decode cX11_aTick 179 = .ok (.dup, 1) := by decide +kernel
theorem dX11_aTick_180 : decode cX11_aTick 180 = .ok (.getfield 267, 3) := by decide +kernel
theorem dX11_aTick_183 : decode cX11_aTick 183 = .ok (.iconst 1, 1) := by decide +kernel
theorem dX11_aTick_184 : decode cX11_aTick 184 = .ok (.iadd, 1) := by decide +kernel
theorem dX11_aTick_185 : decode cX11_aTick 185 = .ok (.putfield 267, 3) := by decide +kernel
theorem dX11_aTick_188 : decode cX11_aTick 188 = .ok (.return_, 1) := by decide +kernel
theorem dX11_go_0 : decode cX11_go 0 = .ok (.iload_n 1, 1) := by decide +kernel
theorem dX11_go_1 : decode cX11_go 1 = .ok (.i2l, 1) := by decide +kernel
theorem dX11_go_2 : decode cX11_go 2 = .ok (.lconst 1, 1) := by decide +kernel
theorem dX11_go_3 : decode cX11_go 3 = .ok (.ldc2_w 315, 3) := by decide +kernel
theorem dX11_go_6 : decode cX11_go 6 = .ok (.invokestatic 141, 3) := by decide +kernel
theorem dX11_go_9 : decode cX11_go 9 = .ok (.ifCond .ne 5, 3) := by decide +kernel
theorem dX11_go_12 : decode cX11_go 12 = .ok (.iconst (-1), 1) := by decide +kernel
theorem dX11_go_13 : decode cX11_go 13 = .ok (.ireturn, 1) := by decide +kernel
theorem dX11_go_14 : decode cX11_go 14 = .ok (.aload_n 0, 1) := by decide +kernel
theorem dX11_go_15 : decode cX11_go 15 = .ok (.getfield 285, 3) := by decide +kernel
theorem dX11_go_18 : decode cX11_go 18 = .ok (.istore_n 2, 1) := by decide +kernel
theorem dX11_go_19 : decode cX11_go 19 = .ok (.iconst 0, 1) := by decide +kernel
theorem dX11_go_20 : decode cX11_go 20 = .ok (.istore_n 3, 1) := by decide +kernel
theorem dX11_go_21 : decode cX11_go 21 = .ok (.iload_n 3, 1) := by decide +kernel
theorem dX11_go_22 : decode cX11_go 22 = .ok (.iload_n 1, 1) := by decide +kernel
theorem dX11_go_23 : decode cX11_go 23 = .ok (.if_icmp .ge 13, 3) := by decide +kernel
theorem dX11_go_26 : decode cX11_go 26 = .ok (.aload_n 0, 1) := by decide +kernel
theorem dX11_go_27 : decode cX11_go 27 = .ok (.invokevirtual 317, 3) := by decide +kernel
theorem dX11_go_30 : decode cX11_go 30 = .ok (.iinc 3 1, 3) := by decide +kernel
theorem dX11_go_33 : decode cX11_go 33 = .ok (.goto (-12), 3) := by decide +kernel
theorem dX11_go_36 : decode cX11_go 36 = .ok (.aload_n 0, 1) := by decide +kernel
theorem dX11_go_37 : decode cX11_go 37 = .ok (.getfield 285, 3) := by decide +kernel
theorem dX11_go_40 : decode cX11_go 40 = .ok (.iload_n 2, 1) := by decide +kernel
theorem dX11_go_41 : decode cX11_go 41 = .ok (.isub, 1) := by decide +kernel
theorem dX11_go_42 : decode cX11_go 42 = .ok (.ireturn, 1) := by decide +kernel
theorem dX11_now_0 : decode cX11_now 0 = .ok (.iload_n 1, 1) := by decide +kernel
theorem dX11_now_1 : decode cX11_now 1 = .ok (.tableswitch 101 0 8 #[51, 56, 62, 68, 73, 78, 83, 88, 96], 51) := by decide +kernel
theorem dX11_now_52 : decode cX11_now 52 = .ok (.aload_n 0, 1) := by decide +kernel
theorem dX11_now_53 : decode cX11_now 53 = .ok (.getfield 267, 3) := by decide +kernel
theorem dX11_now_56 : decode cX11_now 56 = .ok (.ireturn, 1) := by decide +kernel
theorem dX11_now_57 : decode cX11_now 57 = .ok (.aload_n 0, 1) := by decide +kernel
theorem dX11_now_58 : decode cX11_now 58 = .ok (.iconst 3, 1) := by decide +kernel
theorem dX11_now_59 : decode cX11_now 59 = .ok (.invokevirtual 291, 3) := by decide +kernel
theorem dX11_now_62 : decode cX11_now 62 = .ok (.ireturn, 1) := by decide +kernel
theorem dX11_now_63 : decode cX11_now 63 = .ok (.aload_n 0, 1) := by decide +kernel
theorem dX11_now_64 : decode cX11_now 64 = .ok (.iconst 2, 1) := by decide +kernel
theorem dX11_now_65 : decode cX11_now 65 = .ok (.invokevirtual 291, 3) := by decide +kernel
theorem dX11_now_68 : decode cX11_now 68 = .ok (.ireturn, 1) := by decide +kernel
theorem dX11_now_69 : decode cX11_now 69 = .ok (.aload_n 0, 1) := by decide +kernel
theorem dX11_now_70 : decode cX11_now 70 = .ok (.getfield 279, 3) := by decide +kernel
theorem dX11_now_73 : decode cX11_now 73 = .ok (.ireturn, 1) := by decide +kernel
theorem dX11_now_74 : decode cX11_now 74 = .ok (.aload_n 0, 1) := by decide +kernel
theorem dX11_now_75 : decode cX11_now 75 = .ok (.getfield 273, 3) := by decide +kernel
theorem dX11_now_78 : decode cX11_now 78 = .ok (.ireturn, 1) := by decide +kernel
theorem dX11_now_79 : decode cX11_now 79 = .ok (.aload_n 0, 1) := by decide +kernel
theorem dX11_now_80 : decode cX11_now 80 = .ok (.getfield 276, 3) := by decide +kernel
theorem dX11_now_83 : decode cX11_now 83 = .ok (.ireturn, 1) := by decide +kernel
theorem dX11_now_84 : decode cX11_now 84 = .ok (.aload_n 0, 1) := by decide +kernel
theorem dX11_now_85 : decode cX11_now 85 = .ok (.getfield 282, 3) := by decide +kernel
theorem dX11_now_88 : decode cX11_now 88 = .ok (.ireturn, 1) := by decide +kernel
theorem dX11_now_89 : decode cX11_now 89 = .ok (.aload_n 0, 1) := by decide +kernel
theorem dX11_now_90 : decode cX11_now 90 = .ok (.getfield 270, 3) := by decide +kernel
theorem dX11_now_93 : decode cX11_now 93 = .ok (.invokestatic 260, 3) := by decide +kernel
theorem dX11_now_96 : decode cX11_now 96 = .ok (.ireturn, 1) := by decide +kernel
theorem dX11_now_97 : decode cX11_now 97 = .ok (.aload_n 0, 1) := by decide +kernel
theorem dX11_now_98 : decode cX11_now 98 = .ok (.getfield 285, 3) := by decide +kernel
theorem dX11_now_101 : decode cX11_now 101 = .ok (.ireturn, 1) := by decide +kernel
theorem dX11_now_102 : decode cX11_now 102 = .ok (.bipush (-9), 2) := by decide +kernel
theorem dX11_now_104 : decode cX11_now 104 = .ok (.ireturn, 1) := by decide +kernel
theorem dX11_is__0 : decode cX11_is_ 0 = .ok (.aload_n 0, 1) := by decide +kernel
theorem dX11_is__1 : decode cX11_is_ 1 = .ok (.iload_n 1, 1) := by decide +kernel
theorem dX11_is__2 : decode cX11_is_ 2 = .ok (.invokevirtual 248, 3) := by decide +kernel
theorem dX11_is__5 : decode cX11_is_ 5 = .ok (.ifCond .eq 15, 3) := by decide +kernel
theorem dX11_is__20 : decode cX11_is_ 20 = .ok (.iconst (-1), 1) := by decide +kernel
theorem dX11_is__21 : decode cX11_is_ 21 = .ok (.ireturn, 1) := by decide +kernel
theorem dX11_happened_0 : decode cX11_happened 0 = .ok (.iload_n 1, 1) := by decide +kernel
theorem dX11_happened_1 : decode cX11_happened 1 = .ok (.i2l, 1) := by decide +kernel
theorem dX11_happened_2 : decode cX11_happened 2 = .ok (.lconst 0, 1) := by decide +kernel
theorem dX11_happened_3 : decode cX11_happened 3 = .ok (.aload_n 0, 1) := by decide +kernel
theorem dX11_happened_4 : decode cX11_happened 4 = .ok (.getfield 288, 3) := by decide +kernel
theorem dX11_happened_7 : decode cX11_happened 7 = .ok (.iconst 1, 1) := by decide +kernel
theorem dX11_happened_8 : decode cX11_happened 8 = .ok (.isub, 1) := by decide +kernel
theorem dX11_happened_9 : decode cX11_happened 9 = .ok (.i2l, 1) := by decide +kernel
theorem dX11_happened_10 : decode cX11_happened 10 = .ok (.invokestatic 141, 3) := by decide +kernel
theorem dX11_happened_13 : decode cX11_happened 13 = .ok (.ifCond .eq 28, 3) := by decide +kernel
theorem dX11_happened_41 : decode cX11_happened 41 = .ok (.iconst (-1), 1) := by decide +kernel
theorem dX11_happened_42 : decode cX11_happened 42 = .ok (.ireturn, 1) := by decide +kernel
theorem dX11_deadOnes_0 : decode cX11_deadOnes 0 = .ok (.iconst 0, 1) := by decide +kernel
theorem dX11_deadOnes_1 : decode cX11_deadOnes 1 = .ok (.istore_n 1, 1) := by decide +kernel
theorem dX11_deadOnes_2 : decode cX11_deadOnes 2 = .ok (.iconst 0, 1) := by decide +kernel
theorem dX11_deadOnes_3 : decode cX11_deadOnes 3 = .ok (.istore_n 2, 1) := by decide +kernel
theorem dX11_deadOnes_4 : decode cX11_deadOnes 4 = .ok (.iload_n 2, 1) := by decide +kernel
theorem dX11_deadOnes_5 : decode cX11_deadOnes 5 = .ok (.aload_n 0, 1) := by decide +kernel
theorem dX11_deadOnes_6 : decode cX11_deadOnes 6 = .ok (.getfield 121, 3) := by decide +kernel
theorem dX11_deadOnes_9 : decode cX11_deadOnes 9 = .ok (.if_icmp .ge 28, 3) := by decide +kernel
theorem dX11_deadOnes_37 : decode cX11_deadOnes 37 = .ok (.iload_n 1, 1) := by decide +kernel
theorem dX11_deadOnes_38 : decode cX11_deadOnes 38 = .ok (.ireturn, 1) := by decide +kernel
theorem dX11_upBut_0 : decode cX11_upBut 0 = .ok (.iconst 0, 1) := by decide +kernel
theorem dX11_upBut_1 : decode cX11_upBut 1 = .ok (.istore_n 2, 1) := by decide +kernel
theorem dX11_upBut_2 : decode cX11_upBut 2 = .ok (.iconst 1, 1) := by decide +kernel
theorem dX11_upBut_3 : decode cX11_upBut 3 = .ok (.istore_n 3, 1) := by decide +kernel
theorem dX11_upBut_4 : decode cX11_upBut 4 = .ok (.iload_n 3, 1) := by decide +kernel
theorem dX11_upBut_5 : decode cX11_upBut 5 = .ok (.ifCond .eq 74, 3) := by decide +kernel
theorem dX11_upBut_8 : decode cX11_upBut 8 = .ok (.iload_n 2, 1) := by decide +kernel
theorem dX11_upBut_9 : decode cX11_upBut 9 = .ok (.istore 4, 2) := by decide +kernel
theorem dX11_upBut_11 : decode cX11_upBut 11 = .ok (.iconst 0, 1) := by decide +kernel
theorem dX11_upBut_12 : decode cX11_upBut 12 = .ok (.istore 5, 2) := by decide +kernel
theorem dX11_upBut_14 : decode cX11_upBut 14 = .ok (.iload 5, 2) := by decide +kernel
theorem dX11_upBut_16 : decode cX11_upBut 16 = .ok (.aload_n 0, 1) := by decide +kernel
theorem dX11_upBut_17 : decode cX11_upBut 17 = .ok (.getfield 121, 3) := by decide +kernel
theorem dX11_upBut_20 : decode cX11_upBut 20 = .ok (.if_icmp .ge 44, 3) := by decide +kernel
theorem dX11_upBut_64 : decode cX11_upBut 64 = .ok (.iload_n 2, 1) := by decide +kernel
theorem dX11_upBut_65 : decode cX11_upBut 65 = .ok (.iload 4, 2) := by decide +kernel
theorem dX11_upBut_67 : decode cX11_upBut 67 = .ok (.if_icmp .eq 7, 3) := by decide +kernel
theorem dX11_upBut_74 : decode cX11_upBut 74 = .ok (.iconst 0, 1) := by decide +kernel
theorem dX11_upBut_75 : decode cX11_upBut 75 = .ok (.istore_n 3, 1) := by decide +kernel
theorem dX11_upBut_76 : decode cX11_upBut 76 = .ok (.goto (-72), 3) := by decide +kernel
theorem dX11_upBut_79 : decode cX11_upBut 79 = .ok (.iload_n 2, 1) := by decide +kernel
theorem dX11_upBut_80 : decode cX11_upBut 80 = .ok (.ireturn, 1) := by decide +kernel
theorem dX11_up_0 : decode cX11_up 0 = .ok (.iload_n 1, 1) := by decide +kernel
theorem dX11_up_1 : decode cX11_up 1 = .ok (.i2l, 1) := by decide +kernel
theorem dX11_up_2 : decode cX11_up 2 = .ok (.lconst 0, 1) := by decide +kernel
theorem dX11_up_3 : decode cX11_up 3 = .ok (.ldc2_w 322, 3) := by decide +kernel
theorem dX11_up_6 : decode cX11_up 6 = .ok (.invokestatic 141, 3) := by decide +kernel
theorem dX11_up_9 : decode cX11_up 9 = .ok (.ifCond .ne 5, 3) := by decide +kernel
theorem dX11_up_12 : decode cX11_up 12 = .ok (.iconst (-1), 1) := by decide +kernel
theorem dX11_up_13 : decode cX11_up 13 = .ok (.ireturn, 1) := by decide +kernel
theorem dX11_up_14 : decode cX11_up 14 = .ok (.iconst 1, 1) := by decide +kernel
theorem dX11_up_15 : decode cX11_up 15 = .ok (.aload_n 0, 1) := by decide +kernel
theorem dX11_up_16 : decode cX11_up 16 = .ok (.getfield 121, 3) := by decide +kernel
theorem dX11_up_19 : decode cX11_up 19 = .ok (.ishl, 1) := by decide +kernel
theorem dX11_up_20 : decode cX11_up 20 = .ok (.iconst 1, 1) := by decide +kernel
theorem dX11_up_21 : decode cX11_up 21 = .ok (.isub, 1) := by decide +kernel
theorem dX11_up_22 : decode cX11_up 22 = .ok (.istore_n 2, 1) := by decide +kernel
theorem dX11_up_23 : decode cX11_up 23 = .ok (.aload_n 0, 1) := by decide +kernel
theorem dX11_up_24 : decode cX11_up 24 = .ok (.aload_n 0, 1) := by decide +kernel
theorem dX11_up_25 : decode cX11_up 25 = .ok (.invokevirtual 324, 3) := by decide +kernel
theorem dX11_up_28 : decode cX11_up 28 = .ok (.invokevirtual 327, 3) := by decide +kernel
theorem dX11_up_31 : decode cX11_up 31 = .ok (.istore_n 3, 1) := by decide +kernel
theorem dX11_up_32 : decode cX11_up 32 = .ok (.iload_n 1, 1) := by decide +kernel
theorem dX11_up_33 : decode cX11_up 33 = .ok (.ifCond .ne 7, 3) := by decide +kernel
theorem dX11_up_36 : decode cX11_up 36 = .ok (.iload_n 3, 1) := by decide +kernel
theorem dX11_up_37 : decode cX11_up 37 = .ok (.goto 32, 3) := by decide +kernel
theorem dX11_up_40 : decode cX11_up 40 = .ok (.iload_n 1, 1) := by decide +kernel
theorem dX11_up_41 : decode cX11_up 41 = .ok (.iconst 1, 1) := by decide +kernel
theorem dX11_up_42 : decode cX11_up 42 = .ok (.if_icmp .ne 18, 3) := by decide +kernel
theorem dX11_up_45 : decode cX11_up 45 = .ok (.iload_n 2, 1) := by decide +kernel
theorem dX11_up_46 : decode cX11_up 46 = .ok (.iload_n 3, 1) := by decide +kernel
theorem dX11_up_47 : decode cX11_up 47 = .ok (.iconst (-1), 1) := by decide +kernel
theorem dX11_up_48 : decode cX11_up 48 = .ok (.ixor, 1) := by decide +kernel
theorem dX11_up_49 : decode cX11_up 49 = .ok (.iand, 1) := by decide +kernel
theorem dX11_up_50 : decode cX11_up 50 = .ok (.aload_n 0, 1) := by decide +kernel
theorem dX11_up_51 : decode cX11_up 51 = .ok (.invokevirtual 324, 3) := by decide +kernel
theorem dX11_up_54 : decode cX11_up 54 = .ok (.iconst (-1), 1) := by decide +kernel
theorem dX11_up_55 : decode cX11_up 55 = .ok (.ixor, 1) := by decide +kernel
theorem dX11_up_56 : decode cX11_up 56 = .ok (.iand, 1) := by decide +kernel
theorem dX11_up_57 : decode cX11_up 57 = .ok (.goto 12, 3) := by decide +kernel
theorem dX11_up_60 : decode cX11_up 60 = .ok (.iload_n 2, 1) := by decide +kernel
theorem dX11_up_61 : decode cX11_up 61 = .ok (.aload_n 0, 1) := by decide +kernel
theorem dX11_up_62 : decode cX11_up 62 = .ok (.iconst 0, 1) := by decide +kernel
theorem dX11_up_63 : decode cX11_up 63 = .ok (.invokevirtual 327, 3) := by decide +kernel
theorem dX11_up_66 : decode cX11_up 66 = .ok (.iconst (-1), 1) := by decide +kernel
theorem dX11_up_67 : decode cX11_up 67 = .ok (.ixor, 1) := by decide +kernel
theorem dX11_up_68 : decode cX11_up 68 = .ok (.iand, 1) := by decide +kernel
theorem dX11_up_69 : decode cX11_up 69 = .ok (.ireturn, 1) := by decide +kernel
theorem dX11_setWaits_0 : decode cX11_setWaits 0 = .ok (.iconst 0, 1) := by decide +kernel
theorem dX11_setWaits_1 : decode cX11_setWaits 1 = .ok (.istore_n 1, 1) := by decide +kernel
theorem dX11_setWaits_2 : decode cX11_setWaits 2 = .ok (.iload_n 1, 1) := by decide +kernel
theorem dX11_setWaits_3 : decode cX11_setWaits 3 = .ok (.aload_n 0, 1) := by decide +kernel
theorem dX11_setWaits_4 : decode cX11_setWaits 4 = .ok (.getfield 121, 3) := by decide +kernel
theorem dX11_setWaits_7 : decode cX11_setWaits 7 = .ok (.if_icmp .ge 21, 3) := by decide +kernel
theorem dX11_setWaits_28 : decode cX11_setWaits 28 = .ok (.return_, 1) := by decide +kernel
theorem dX11_findTimes_0 : decode cX11_findTimes 0 = .ok (.aload_n 0, 1) := by decide +kernel
theorem dX11_findTimes_1 : decode cX11_findTimes 1 = .ok (.aload_n 0, 1) := by decide +kernel
theorem dX11_findTimes_2 : decode cX11_findTimes 2 = .ok (.aload_n 0, 1) := by decide +kernel
theorem dX11_findTimes_3 : decode cX11_findTimes 3 = .ok (.invokevirtual 324, 3) := by decide +kernel
theorem dX11_findTimes_6 : decode cX11_findTimes 6 = .ok (.invokevirtual 327, 3) := by decide +kernel
theorem dX11_findTimes_9 : decode cX11_findTimes 9 = .ok (.putfield 330, 3) := by decide +kernel
theorem dX11_findTimes_12 : decode cX11_findTimes 12 = .ok (.iconst 0, 1) := by decide +kernel
theorem dX11_findTimes_13 : decode cX11_findTimes 13 = .ok (.istore_n 1, 1) := by decide +kernel
theorem dX11_findTimes_14 : decode cX11_findTimes 14 = .ok (.iload_n 1, 1) := by decide +kernel
theorem dX11_findTimes_15 : decode cX11_findTimes 15 = .ok (.bipush 8, 2) := by decide +kernel
theorem dX11_findTimes_17 : decode cX11_findTimes 17 = .ok (.if_icmp .ge 27, 3) := by decide +kernel
theorem dX11_findTimes_20 : decode cX11_findTimes 20 = .ok (.aload_n 0, 1) := by decide +kernel
theorem dX11_findTimes_21 : decode cX11_findTimes 21 = .ok (.getfield 68, 3) := by decide +kernel
theorem dX11_findTimes_24 : decode cX11_findTimes 24 = .ok (.iload_n 1, 1) := by decide +kernel
theorem dX11_findTimes_25 : decode cX11_findTimes 25 = .ok (.ldc_w 333, 3) := by decide +kernel
theorem dX11_findTimes_28 : decode cX11_findTimes 28 = .ok (.iastore, 1) := by decide +kernel
theorem dX11_findTimes_29 : decode cX11_findTimes 29 = .ok (.aload_n 0, 1) := by decide +kernel
theorem dX11_findTimes_30 : decode cX11_findTimes 30 = .ok (.getfield 71, 3) := by decide +kernel
theorem dX11_findTimes_33 : decode cX11_findTimes 33 = .ok (.iload_n 1, 1) := by decide +kernel
theorem dX11_findTimes_34 : decode cX11_findTimes 34 = .ok (.ldc_w 333, 3) := by decide +kernel
theorem dX11_findTimes_37 : decode cX11_findTimes 37 = .ok (.iastore, 1) := by decide +kernel
theorem dX11_findTimes_38 : decode cX11_findTimes 38 = .ok (.iinc 1 1, 3) := by decide +kernel
theorem dX11_findTimes_41 : decode cX11_findTimes 41 = .ok (.goto (-27), 3) := by decide +kernel
theorem dX11_findTimes_44 : decode cX11_findTimes 44 = .ok (.iconst 0, 1) := by decide +kernel
theorem dX11_findTimes_45 : decode cX11_findTimes 45 = .ok (.istore_n 1, 1) := by decide +kernel
theorem dX11_findTimes_46 : decode cX11_findTimes 46 = .ok (.iload_n 1, 1) := by decide +kernel
theorem dX11_findTimes_47 : decode cX11_findTimes 47 = .ok (.sipush 200, 3) := by decide +kernel
theorem dX11_findTimes_50 : decode cX11_findTimes 50 = .ok (.if_icmp .gt 126, 3) := by decide +kernel
theorem dX11_findTimes_53 : decode cX11_findTimes 53 = .ok (.sipush 256, 3) := by decide +kernel
theorem dX11_findTimes_56 : decode cX11_findTimes 56 = .ok (.istore_n 2, 1) := by decide +kernel
theorem dX11_findTimes_57 : decode cX11_findTimes 57 = .ok (.iconst 0, 1) := by decide +kernel
theorem dX11_findTimes_58 : decode cX11_findTimes 58 = .ok (.istore_n 3, 1) := by decide +kernel
theorem dX11_findTimes_59 : decode cX11_findTimes 59 = .ok (.iload_n 3, 1) := by decide +kernel
theorem dX11_findTimes_60 : decode cX11_findTimes 60 = .ok (.aload_n 0, 1) := by decide +kernel
theorem dX11_findTimes_61 : decode cX11_findTimes 61 = .ok (.getfield 121, 3) := by decide +kernel
theorem dX11_findTimes_64 : decode cX11_findTimes 64 = .ok (.if_icmp .ge 29, 3) := by decide +kernel
theorem dX11_findTimes_93 : decode cX11_findTimes 93 = .ok (.iconst 0, 1) := by decide +kernel
theorem dX11_findTimes_94 : decode cX11_findTimes 94 = .ok (.istore_n 3, 1) := by decide +kernel
theorem dX11_findTimes_95 : decode cX11_findTimes 95 = .ok (.iload_n 3, 1) := by decide +kernel
theorem dX11_findTimes_96 : decode cX11_findTimes 96 = .ok (.aload_n 0, 1) := by decide +kernel
theorem dX11_findTimes_97 : decode cX11_findTimes 97 = .ok (.getfield 121, 3) := by decide +kernel
theorem dX11_findTimes_100 : decode cX11_findTimes 100 = .ok (.if_icmp .ge 70, 3) := by decide +kernel
theorem dX11_findTimes_170 : decode cX11_findTimes 170 = .ok (.iinc 1 1, 3) := by decide +kernel
theorem dX11_findTimes_173 : decode cX11_findTimes 173 = .ok (.goto (-127), 3) := by decide +kernel
theorem dX11_findTimes_176 : decode cX11_findTimes 176 = .ok (.return_, 1) := by decide +kernel
theorem dX11_setTimes_0 : decode cX11_setTimes 0 = .ok (.iconst 0, 1) := by decide +kernel
theorem dX11_setTimes_1 : decode cX11_setTimes 1 = .ok (.istore_n 2, 1) := by decide +kernel
theorem dX11_setTimes_2 : decode cX11_setTimes 2 = .ok (.iload_n 2, 1) := by decide +kernel
theorem dX11_setTimes_3 : decode cX11_setTimes 3 = .ok (.aload_n 0, 1) := by decide +kernel
theorem dX11_setTimes_4 : decode cX11_setTimes 4 = .ok (.getfield 121, 3) := by decide +kernel
theorem dX11_setTimes_7 : decode cX11_setTimes 7 = .ok (.if_icmp .ge 36, 3) := by decide +kernel
theorem dX11_setTimes_43 : decode cX11_setTimes 43 = .ok (.return_, 1) := by decide +kernel
theorem dX11_when_0 : decode cX11_when 0 = .ok (.aload_n 0, 1) := by decide +kernel
theorem dX11_when_1 : decode cX11_when 1 = .ok (.iload_n 1, 1) := by decide +kernel
theorem dX11_when_2 : decode cX11_when 2 = .ok (.invokevirtual 248, 3) := by decide +kernel
theorem dX11_when_5 : decode cX11_when 5 = .ok (.ifCond .eq 15, 3) := by decide +kernel
theorem dX11_when_20 : decode cX11_when 20 = .ok (.iconst (-1), 1) := by decide +kernel
theorem dX11_when_21 : decode cX11_when 21 = .ok (.ireturn, 1) := by decide +kernel
theorem dX11_ways_0 : decode cX11_ways 0 = .ok (.iconst 1, 1) := by decide +kernel
theorem dX11_ways_1 : decode cX11_ways 1 = .ok (.istore_n 1, 1) := by decide +kernel
theorem dX11_ways_2 : decode cX11_ways 2 = .ok (.iconst 0, 1) := by decide +kernel
theorem dX11_ways_3 : decode cX11_ways 3 = .ok (.istore_n 2, 1) := by decide +kernel
theorem dX11_ways_4 : decode cX11_ways 4 = .ok (.iload_n 2, 1) := by decide +kernel
theorem dX11_ways_5 : decode cX11_ways 5 = .ok (.aload_n 0, 1) := by decide +kernel
theorem dX11_ways_6 : decode cX11_ways 6 = .ok (.getfield 121, 3) := by decide +kernel
theorem dX11_ways_9 : decode cX11_ways 9 = .ok (.if_icmp .ge 38, 3) := by decide +kernel
theorem dX11_ways_47 : decode cX11_ways 47 = .ok (.iload_n 1, 1) := by decide +kernel
theorem dX11_ways_48 : decode cX11_ways 48 = .ok (.ireturn, 1) := by decide +kernel
theorem dX11_ahead_0 : decode cX11_ahead 0 = .ok (.aload_n 0, 1) := by decide +kernel
theorem dX11_ahead_1 : decode cX11_ahead 1 = .ok (.iload_n 1, 1) := by decide +kernel
theorem dX11_ahead_2 : decode cX11_ahead 2 = .ok (.invokevirtual 248, 3) := by decide +kernel
theorem dX11_ahead_5 : decode cX11_ahead 5 = .ok (.ifCond .eq 26, 3) := by decide +kernel
theorem dX11_ahead_31 : decode cX11_ahead 31 = .ok (.sipush (-1000), 3) := by decide +kernel
theorem dX11_ahead_34 : decode cX11_ahead 34 = .ok (.ireturn, 1) := by decide +kernel
theorem dX11_drawnAt_0 : decode cX11_drawnAt 0 = .ok (.iconst 0, 1) := by decide +kernel
theorem dX11_drawnAt_1 : decode cX11_drawnAt 1 = .ok (.istore_n 2, 1) := by decide +kernel
theorem dX11_drawnAt_2 : decode cX11_drawnAt 2 = .ok (.iconst 0, 1) := by decide +kernel
theorem dX11_drawnAt_3 : decode cX11_drawnAt 3 = .ok (.istore_n 3, 1) := by decide +kernel
theorem dX11_drawnAt_4 : decode cX11_drawnAt 4 = .ok (.iconst 0, 1) := by decide +kernel
theorem dX11_drawnAt_5 : decode cX11_drawnAt 5 = .ok (.istore 4, 2) := by decide +kernel
theorem dX11_drawnAt_7 : decode cX11_drawnAt 7 = .ok (.iload 4, 2) := by decide +kernel
theorem dX11_drawnAt_9 : decode cX11_drawnAt 9 = .ok (.aload_n 0, 1) := by decide +kernel
theorem dX11_drawnAt_10 : decode cX11_drawnAt 10 = .ok (.getfield 121, 3) := by decide +kernel
theorem dX11_drawnAt_13 : decode cX11_drawnAt 13 = .ok (.if_icmp .ge 85, 3) := by decide +kernel
theorem dX11_drawnAt_98 : decode cX11_drawnAt 98 = .ok (.aload_n 0, 1) := by decide +kernel
theorem dX11_drawnAt_99 : decode cX11_drawnAt 99 = .ok (.iload_n 2, 1) := by decide +kernel
theorem dX11_drawnAt_100 : decode cX11_drawnAt 100 = .ok (.iload_n 3, 1) := by decide +kernel
theorem dX11_drawnAt_101 : decode cX11_drawnAt 101 = .ok (.invokevirtual 309, 3) := by decide +kernel
theorem dX11_drawnAt_104 : decode cX11_drawnAt 104 = .ok (.ireturn, 1) := by decide +kernel
theorem dX11_drawn_0 : decode cX11_drawn 0 = .ok (.iload_n 1, 1) := by decide +kernel
theorem dX11_drawn_1 : decode cX11_drawn 1 = .ok (.i2l, 1) := by decide +kernel
theorem dX11_drawn_2 : decode cX11_drawn 2 = .ok (.lconst 0, 1) := by decide +kernel
theorem dX11_drawn_3 : decode cX11_drawn 3 = .ok (.ldc2_w 315, 3) := by decide +kernel
theorem dX11_drawn_6 : decode cX11_drawn 6 = .ok (.invokestatic 141, 3) := by decide +kernel
theorem dX11_drawn_9 : decode cX11_drawn 9 = .ok (.ifCond .ne 5, 3) := by decide +kernel
theorem dX11_drawn_12 : decode cX11_drawn 12 = .ok (.iconst (-1), 1) := by decide +kernel
theorem dX11_drawn_13 : decode cX11_drawn 13 = .ok (.ireturn, 1) := by decide +kernel
theorem dX11_drawn_14 : decode cX11_drawn 14 = .ok (.aload_n 0, 1) := by decide +kernel
theorem dX11_drawn_15 : decode cX11_drawn 15 = .ok (.invokevirtual 334, 3) := by decide +kernel
theorem dX11_drawn_18 : decode cX11_drawn 18 = .ok (.aload_n 0, 1) := by decide +kernel
theorem dX11_drawn_19 : decode cX11_drawn 19 = .ok (.iconst 0, 1) := by decide +kernel
theorem dX11_drawn_20 : decode cX11_drawn 20 = .ok (.invokevirtual 337, 3) := by decide +kernel
theorem dX11_drawn_23 : decode cX11_drawn 23 = .ok (.aload_n 0, 1) := by decide +kernel
theorem dX11_drawn_24 : decode cX11_drawn 24 = .ok (.invokevirtual 340, 3) := by decide +kernel
theorem dX11_drawn_27 : decode cX11_drawn 27 = .ok (.aload_n 0, 1) := by decide +kernel
theorem dX11_drawn_28 : decode cX11_drawn 28 = .ok (.iload_n 1, 1) := by decide +kernel
theorem dX11_drawn_29 : decode cX11_drawn 29 = .ok (.invokevirtual 350, 3) := by decide +kernel
theorem dX11_drawn_32 : decode cX11_drawn 32 = .ok (.ireturn, 1) := by decide +kernel
theorem dX11_peak_0 : decode cX11_peak 0 = .ok (.iload_n 1, 1) := by decide +kernel
theorem dX11_peak_1 : decode cX11_peak 1 = .ok (.i2l, 1) := by decide +kernel
theorem dX11_peak_2 : decode cX11_peak 2 = .ok (.lconst 0, 1) := by decide +kernel
theorem dX11_peak_3 : decode cX11_peak 3 = .ok (.ldc2_w 356, 3) := by decide +kernel
theorem dX11_peak_6 : decode cX11_peak 6 = .ok (.invokestatic 141, 3) := by decide +kernel
theorem dX11_peak_9 : decode cX11_peak 9 = .ok (.ifCond .ne 5, 3) := by decide +kernel
theorem dX11_peak_12 : decode cX11_peak 12 = .ok (.iconst (-1), 1) := by decide +kernel
theorem dX11_peak_13 : decode cX11_peak 13 = .ok (.ireturn, 1) := by decide +kernel
theorem dX11_peak_14 : decode cX11_peak 14 = .ok (.iload_n 1, 1) := by decide +kernel
theorem dX11_peak_15 : decode cX11_peak 15 = .ok (.iconst 1, 1) := by decide +kernel
theorem dX11_peak_16 : decode cX11_peak 16 = .ok (.if_icmp .le 16, 3) := by decide +kernel
theorem dX11_peak_19 : decode cX11_peak 19 = .ok (.aload_n 0, 1) := by decide +kernel
theorem dX11_peak_20 : decode cX11_peak 20 = .ok (.invokevirtual 343, 3) := by decide +kernel
theorem dX11_peak_23 : decode cX11_peak 23 = .ok (.sipush 20000, 3) := by decide +kernel
theorem dX11_peak_26 : decode cX11_peak 26 = .ok (.if_icmp .le 6, 3) := by decide +kernel
theorem dX11_peak_32 : decode cX11_peak 32 = .ok (.aload_n 0, 1) := by decide +kernel
theorem dX11_peak_33 : decode cX11_peak 33 = .ok (.aload_n 0, 1) := by decide +kernel
theorem dX11_peak_34 : decode cX11_peak 34 = .ok (.invokevirtual 324, 3) := by decide +kernel
theorem dX11_peak_37 : decode cX11_peak 37 = .ok (.invokevirtual 327, 3) := by decide +kernel
theorem dX11_peak_40 : decode cX11_peak 40 = .ok (.ifCond .ne 6, 3) := by decide +kernel
theorem dX11_peak_43 : decode cX11_peak 43 = .ok (.bipush (-4), 2) := by decide +kernel
theorem dX11_peak_45 : decode cX11_peak 45 = .ok (.ireturn, 1) := by decide +kernel
theorem dX11_lastGood_0 : decode cX11_lastGood 0 = .ok (.bipush (-4), 2) := by decide +kernel
theorem dX11_lastGood_2 : decode cX11_lastGood 2 = .ok (.istore_n 1, 1) := by decide +kernel
theorem dX11_lastGood_3 : decode cX11_lastGood 3 = .ok (.iconst 0, 1) := by decide +kernel
theorem dX11_lastGood_4 : decode cX11_lastGood 4 = .ok (.istore_n 2, 1) := by decide +kernel
theorem dX11_lastGood_5 : decode cX11_lastGood 5 = .ok (.iload_n 2, 1) := by decide +kernel
theorem dX11_lastGood_6 : decode cX11_lastGood 6 = .ok (.aload_n 0, 1) := by decide +kernel
theorem dX11_lastGood_7 : decode cX11_lastGood 7 = .ok (.getfield 121, 3) := by decide +kernel
theorem dX11_lastGood_10 : decode cX11_lastGood 10 = .ok (.if_icmp .ge 42, 3) := by decide +kernel
theorem dX11_lastGood_52 : decode cX11_lastGood 52 = .ok (.iload_n 1, 1) := by decide +kernel
theorem dX11_lastGood_53 : decode cX11_lastGood 53 = .ok (.ireturn, 1) := by decide +kernel
theorem dX11_findStagger_0 : decode cX11_findStagger 0 = .ok (.aload_n 0, 1) := by decide +kernel
theorem dX11_findStagger_1 : decode cX11_findStagger 1 = .ok (.bipush (-4), 2) := by decide +kernel
theorem dX11_findStagger_3 : decode cX11_findStagger 3 = .ok (.putfield 361, 3) := by decide +kernel
theorem dX11_findStagger_6 : decode cX11_findStagger 6 = .ok (.aload_n 0, 1) := by decide +kernel
theorem dX11_findStagger_7 : decode cX11_findStagger 7 = .ok (.iconst 0, 1) := by decide +kernel
theorem dX11_findStagger_8 : decode cX11_findStagger 8 = .ok (.invokevirtual 337, 3) := by decide +kernel
theorem dX11_findStagger_11 : decode cX11_findStagger 11 = .ok (.iconst 0, 1) := by decide +kernel
theorem dX11_findStagger_12 : decode cX11_findStagger 12 = .ok (.istore_n 1, 1) := by decide +kernel
theorem dX11_findStagger_13 : decode cX11_findStagger 13 = .ok (.iload_n 1, 1) := by decide +kernel
theorem dX11_findStagger_14 : decode cX11_findStagger 14 = .ok (.iconst 1, 1) := by decide +kernel
theorem dX11_findStagger_15 : decode cX11_findStagger 15 = .ok (.iconst 2, 1) := by decide +kernel
theorem dX11_findStagger_16 : decode cX11_findStagger 16 = .ok (.aload_n 0, 1) := by decide +kernel
theorem dX11_findStagger_17 : decode cX11_findStagger 17 = .ok (.getfield 121, 3) := by decide +kernel
theorem dX11_findStagger_20 : decode cX11_findStagger 20 = .ok (.imul, 1) := by decide +kernel
theorem dX11_findStagger_21 : decode cX11_findStagger 21 = .ok (.ishl, 1) := by decide +kernel
theorem dX11_findStagger_22 : decode cX11_findStagger 22 = .ok (.if_icmp .ge 121, 3) := by decide +kernel
theorem dX11_findStagger_25 : decode cX11_findStagger 25 = .ok (.iconst 0, 1) := by decide +kernel
theorem dX11_findStagger_26 : decode cX11_findStagger 26 = .ok (.istore_n 2, 1) := by decide +kernel
theorem dX11_findStagger_27 : decode cX11_findStagger 27 = .ok (.iload_n 2, 1) := by decide +kernel
theorem dX11_findStagger_28 : decode cX11_findStagger 28 = .ok (.aload_n 0, 1) := by decide +kernel
theorem dX11_findStagger_29 : decode cX11_findStagger 29 = .ok (.getfield 121, 3) := by decide +kernel
theorem dX11_findStagger_32 : decode cX11_findStagger 32 = .ok (.if_icmp .ge 29, 3) := by decide +kernel
theorem dX11_findStagger_61 : decode cX11_findStagger 61 = .ok (.aload_n 0, 1) := by decide +kernel
theorem dX11_findStagger_62 : decode cX11_findStagger 62 = .ok (.invokevirtual 340, 3) := by decide +kernel
theorem dX11_findStagger_65 : decode cX11_findStagger 65 = .ok (.aload_n 0, 1) := by decide +kernel
theorem dX11_findStagger_66 : decode cX11_findStagger 66 = .ok (.invokevirtual 364, 3) := by decide +kernel
theorem dX11_findStagger_69 : decode cX11_findStagger 69 = .ok (.istore_n 2, 1) := by decide +kernel
theorem dX11_findStagger_70 : decode cX11_findStagger 70 = .ok (.iload_n 2, 1) := by decide +kernel
theorem dX11_findStagger_71 : decode cX11_findStagger 71 = .ok (.bipush (-4), 2) := by decide +kernel
theorem dX11_findStagger_73 : decode cX11_findStagger 73 = .ok (.if_icmp .eq 64, 3) := by decide +kernel
theorem dX11_findStagger_137 : decode cX11_findStagger 137 = .ok (.iinc 1 1, 3) := by decide +kernel
theorem dX11_findStagger_140 : decode cX11_findStagger 140 = .ok (.goto (-127), 3) := by decide +kernel
theorem dX11_findStagger_143 : decode cX11_findStagger 143 = .ok (.return_, 1) := by decide +kernel
theorem dX11_stagger_0 : decode cX11_stagger 0 = .ok (.iload_n 1, 1) := by decide +kernel
theorem dX11_stagger_1 : decode cX11_stagger 1 = .ok (.ifCond .eq 24, 3) := by decide +kernel
theorem dX11_stagger_4 : decode cX11_stagger 4 = .ok (.iload_n 1, 1) := by decide +kernel
theorem dX11_stagger_5 : decode cX11_stagger 5 = .ok (.i2l, 1) := by decide +kernel
theorem dX11_stagger_6 : decode cX11_stagger 6 = .ok (.ldc2_w 367, 3) := by decide +kernel
theorem dX11_stagger_9 : decode cX11_stagger 9 = .ok (.bipush 9, 2) := by decide +kernel
theorem dX11_stagger_11 : decode cX11_stagger 11 = .ok (.aload_n 0, 1) := by decide +kernel
theorem dX11_stagger_12 : decode cX11_stagger 12 = .ok (.getfield 121, 3) := by decide +kernel
theorem dX11_stagger_15 : decode cX11_stagger 15 = .ok (.iadd, 1) := by decide +kernel
theorem dX11_stagger_16 : decode cX11_stagger 16 = .ok (.i2l, 1) := by decide +kernel
theorem dX11_stagger_17 : decode cX11_stagger 17 = .ok (.invokestatic 141, 3) := by decide +kernel
theorem dX11_stagger_20 : decode cX11_stagger 20 = .ok (.ifCond .ne 5, 3) := by decide +kernel
theorem dX11_stagger_23 : decode cX11_stagger 23 = .ok (.iconst (-1), 1) := by decide +kernel
theorem dX11_stagger_24 : decode cX11_stagger 24 = .ok (.ireturn, 1) := by decide +kernel
theorem dX11_stagger_25 : decode cX11_stagger 25 = .ok (.aload_n 0, 1) := by decide +kernel
theorem dX11_stagger_26 : decode cX11_stagger 26 = .ok (.getfield 121, 3) := by decide +kernel
theorem dX11_stagger_29 : decode cX11_stagger 29 = .ok (.bipush 6, 2) := by decide +kernel
theorem dX11_stagger_31 : decode cX11_stagger 31 = .ok (.if_icmp .le 6, 3) := by decide +kernel
theorem dX11_stagger_37 : decode cX11_stagger 37 = .ok (.aload_n 0, 1) := by decide +kernel
theorem dX11_stagger_38 : decode cX11_stagger 38 = .ok (.invokevirtual 369, 3) := by decide +kernel
theorem dX11_stagger_41 : decode cX11_stagger 41 = .ok (.aload_n 0, 1) := by decide +kernel
theorem dX11_stagger_42 : decode cX11_stagger 42 = .ok (.getfield 361, 3) := by decide +kernel
theorem dX11_stagger_45 : decode cX11_stagger 45 = .ok (.bipush (-4), 2) := by decide +kernel
theorem dX11_stagger_47 : decode cX11_stagger 47 = .ok (.if_icmp .ne 8, 3) := by decide +kernel
theorem dX11_stagger_50 : decode cX11_stagger 50 = .ok (.bipush (-4), 2) := by decide +kernel
theorem dX11_stagger_52 : decode cX11_stagger 52 = .ok (.goto 23, 3) := by decide +kernel
theorem dX11_stagger_75 : decode cX11_stagger 75 = .ok (.ireturn, 1) := by decide +kernel
theorem dX11_adopt_0 : decode cX11_adopt 0 = .ok (.aload_n 0, 1) := by decide +kernel
theorem dX11_adopt_1 : decode cX11_adopt 1 = .ok (.getfield 121, 3) := by decide +kernel
theorem dX11_adopt_4 : decode cX11_adopt 4 = .ok (.bipush 6, 2) := by decide +kernel
theorem dX11_adopt_6 : decode cX11_adopt 6 = .ok (.if_icmp .le 6, 3) := by decide +kernel
theorem dX11_adopt_12 : decode cX11_adopt 12 = .ok (.aload_n 0, 1) := by decide +kernel
theorem dX11_adopt_13 : decode cX11_adopt 13 = .ok (.invokevirtual 369, 3) := by decide +kernel
theorem dX11_adopt_16 : decode cX11_adopt 16 = .ok (.iconst 0, 1) := by decide +kernel
theorem dX11_adopt_17 : decode cX11_adopt 17 = .ok (.istore_n 1, 1) := by decide +kernel
theorem dX11_adopt_18 : decode cX11_adopt 18 = .ok (.iload_n 1, 1) := by decide +kernel
theorem dX11_adopt_19 : decode cX11_adopt 19 = .ok (.aload_n 0, 1) := by decide +kernel
theorem dX11_adopt_20 : decode cX11_adopt 20 = .ok (.getfield 121, 3) := by decide +kernel
theorem dX11_adopt_23 : decode cX11_adopt 23 = .ok (.if_icmp .ge 35, 3) := by decide +kernel
theorem dX11_adopt_58 : decode cX11_adopt 58 = .ok (.aload_n 0, 1) := by decide +kernel
theorem dX11_adopt_59 : decode cX11_adopt 59 = .ok (.getfield 361, 3) := by decide +kernel
theorem dX11_adopt_62 : decode cX11_adopt 62 = .ok (.ireturn, 1) := by decide +kernel
theorem dX11_down_0 : decode cX11_down 0 = .ok (.aload_n 0, 1) := by decide +kernel
theorem dX11_down_1 : decode cX11_down 1 = .ok (.iload_n 1, 1) := by decide +kernel
theorem dX11_down_2 : decode cX11_down 2 = .ok (.invokevirtual 372, 3) := by decide +kernel
theorem dX11_down_5 : decode cX11_down 5 = .ok (.ifCond .eq 27, 3) := by decide +kernel
theorem dX11_down_8 : decode cX11_down 8 = .ok (.aload_n 0, 1) := by decide +kernel
theorem dX11_down_9 : decode cX11_down 9 = .ok (.aload_n 0, 1) := by decide +kernel
theorem dX11_down_10 : decode cX11_down 10 = .ok (.invokevirtual 324, 3) := by decide +kernel
theorem dX11_down_13 : decode cX11_down 13 = .ok (.invokevirtual 327, 3) := by decide +kernel
theorem dX11_down_16 : decode cX11_down 16 = .ok (.aload_n 0, 1) := by decide +kernel
theorem dX11_down_17 : decode cX11_down 17 = .ok (.aload_n 0, 1) := by decide +kernel
theorem dX11_down_18 : decode cX11_down 18 = .ok (.invokevirtual 324, 3) := by decide +kernel
theorem dX11_down_21 : decode cX11_down 21 = .ok (.iload_n 1, 1) := by decide +kernel
theorem dX11_down_22 : decode cX11_down 22 = .ok (.ior, 1) := by decide +kernel
theorem dX11_down_23 : decode cX11_down 23 = .ok (.invokevirtual 327, 3) := by decide +kernel
theorem dX11_down_26 : decode cX11_down 26 = .ok (.iconst (-1), 1) := by decide +kernel
theorem dX11_down_27 : decode cX11_down 27 = .ok (.ixor, 1) := by decide +kernel
theorem dX11_down_28 : decode cX11_down 28 = .ok (.iand, 1) := by decide +kernel
theorem dX11_down_29 : decode cX11_down 29 = .ok (.goto 4, 3) := by decide +kernel
theorem dX11_down_32 : decode cX11_down 32 = .ok (.iconst (-1), 1) := by decide +kernel
theorem dX11_down_33 : decode cX11_down 33 = .ok (.ireturn, 1) := by decide +kernel
theorem dX11_cut_0 : decode cX11_cut 0 = .ok (.aload_n 0, 1) := by decide +kernel
theorem dX11_cut_1 : decode cX11_cut 1 = .ok (.iload_n 1, 1) := by decide +kernel
theorem dX11_cut_2 : decode cX11_cut 2 = .ok (.invokevirtual 248, 3) := by decide +kernel
theorem dX11_cut_5 : decode cX11_cut 5 = .ok (.ifCond .eq 13, 3) := by decide +kernel
theorem dX11_cut_18 : decode cX11_cut 18 = .ok (.iconst (-1), 1) := by decide +kernel
theorem dX11_cut_19 : decode cX11_cut 19 = .ok (.ireturn, 1) := by decide +kernel
theorem dX11_need_0 : decode cX11_need 0 = .ok (.aload_n 0, 1) := by decide +kernel
theorem dX11_need_1 : decode cX11_need 1 = .ok (.iload_n 1, 1) := by decide +kernel
theorem dX11_need_2 : decode cX11_need 2 = .ok (.invokevirtual 248, 3) := by decide +kernel
theorem dX11_need_5 : decode cX11_need 5 = .ok (.ifCond .eq 13, 3) := by decide +kernel
theorem dX11_need_18 : decode cX11_need 18 = .ok (.iconst (-1), 1) := by decide +kernel
theorem dX11_need_19 : decode cX11_need 19 = .ok (.ireturn, 1) := by decide +kernel
theorem dX11_must_0 : decode cX11_must 0 = .ok (.aload_n 0, 1) := by decide +kernel
theorem dX11_must_1 : decode cX11_must 1 = .ok (.iload_n 1, 1) := by decide +kernel
theorem dX11_must_2 : decode cX11_must 2 = .ok (.invokevirtual 248, 3) := by decide +kernel
theorem dX11_must_5 : decode cX11_must 5 = .ok (.ifCond .ne 5, 3) := by decide +kernel
theorem dX11_must_8 : decode cX11_must 8 = .ok (.iconst (-1), 1) := by decide +kernel
theorem dX11_must_9 : decode cX11_must 9 = .ok (.ireturn, 1) := by decide +kernel
theorem dX11_seen_0 : decode cX11_seen 0 = .ok (.aload_n 0, 1) := by decide +kernel
theorem dX11_seen_1 : decode cX11_seen 1 = .ok (.iload_n 1, 1) := by decide +kernel
theorem dX11_seen_2 : decode cX11_seen 2 = .ok (.invokevirtual 372, 3) := by decide +kernel
theorem dX11_seen_5 : decode cX11_seen 5 = .ok (.ifCond .ne 5, 3) := by decide +kernel
theorem dX11_seen_8 : decode cX11_seen 8 = .ok (.iconst (-1), 1) := by decide +kernel
theorem dX11_seen_9 : decode cX11_seen 9 = .ok (.ireturn, 1) := by decide +kernel
theorem dX11_seen_10 : decode cX11_seen 10 = .ok (.aload_n 0, 1) := by decide +kernel
theorem dX11_seen_11 : decode cX11_seen 11 = .ok (.iconst 0, 1) := by decide +kernel
theorem dX11_seen_12 : decode cX11_seen 12 = .ok (.invokevirtual 327, 3) := by decide +kernel
theorem dX11_seen_15 : decode cX11_seen 15 = .ok (.iload_n 1, 1) := by decide +kernel
theorem dX11_seen_16 : decode cX11_seen 16 = .ok (.if_icmp .ne 9, 3) := by decide +kernel
theorem dX11_seen_19 : decode cX11_seen 19 = .ok (.sipush 256, 3) := by decide +kernel
theorem dX11_seen_22 : decode cX11_seen 22 = .ok (.goto 4, 3) := by decide +kernel
theorem dX11_seen_26 : decode cX11_seen 26 = .ok (.istore_n 2, 1) := by decide +kernel
theorem dX11_seen_27 : decode cX11_seen 27 = .ok (.iconst 0, 1) := by decide +kernel
theorem dX11_seen_28 : decode cX11_seen 28 = .ok (.istore_n 3, 1) := by decide +kernel
theorem dX11_seen_29 : decode cX11_seen 29 = .ok (.iload_n 3, 1) := by decide +kernel
theorem dX11_seen_30 : decode cX11_seen 30 = .ok (.aload_n 0, 1) := by decide +kernel
theorem dX11_seen_31 : decode cX11_seen 31 = .ok (.getfield 121, 3) := by decide +kernel
theorem dX11_seen_34 : decode cX11_seen 34 = .ok (.if_icmp .ge 30, 3) := by decide +kernel
theorem dX11_seen_64 : decode cX11_seen 64 = .ok (.iload_n 2, 1) := by decide +kernel
theorem dX11_seen_65 : decode cX11_seen 65 = .ok (.ireturn, 1) := by decide +kernel
theorem dX11_isSheet_0 : decode cX11_isSheet 0 = .ok (.iload_n 0, 1) := by decide +kernel
theorem dX11_isSheet_1 : decode cX11_isSheet 1 = .ok (.i2l, 1) := by decide +kernel
theorem dX11_isSheet_2 : decode cX11_isSheet 2 = .ok (.lconst 0, 1) := by decide +kernel
theorem dX11_isSheet_3 : decode cX11_isSheet 3 = .ok (.ldc2_w 356, 3) := by decide +kernel
theorem dX11_isSheet_6 : decode cX11_isSheet 6 = .ok (.invokestatic 141, 3) := by decide +kernel
theorem dX11_isSheet_9 : decode cX11_isSheet 9 = .ok (.ifCond .eq 19, 3) := by decide +kernel
theorem dX11_isSheet_12 : decode cX11_isSheet 12 = .ok (.iload_n 1, 1) := by decide +kernel
theorem dX11_isSheet_13 : decode cX11_isSheet 13 = .ok (.i2l, 1) := by decide +kernel
theorem dX11_isSheet_14 : decode cX11_isSheet 14 = .ok (.lconst 0, 1) := by decide +kernel
theorem dX11_isSheet_15 : decode cX11_isSheet 15 = .ok (.ldc2_w 322, 3) := by decide +kernel
theorem dX11_isSheet_18 : decode cX11_isSheet 18 = .ok (.invokestatic 141, 3) := by decide +kernel
theorem dX11_isSheet_21 : decode cX11_isSheet 21 = .ok (.ifCond .eq 7, 3) := by decide +kernel
theorem dX11_isSheet_24 : decode cX11_isSheet 24 = .ok (.iconst 1, 1) := by decide +kernel
theorem dX11_isSheet_25 : decode cX11_isSheet 25 = .ok (.goto 4, 3) := by decide +kernel
theorem dX11_isSheet_28 : decode cX11_isSheet 28 = .ok (.iconst 0, 1) := by decide +kernel
theorem dX11_isSheet_29 : decode cX11_isSheet 29 = .ok (.ireturn, 1) := by decide +kernel
theorem dX11_sheet_0 : decode cX11_sheet 0 = .ok (.iload_n 1, 1) := by decide +kernel
theorem dX11_sheet_1 : decode cX11_sheet 1 = .ok (.iload_n 2, 1) := by decide +kernel
theorem dX11_sheet_2 : decode cX11_sheet 2 = .ok (.invokestatic 381, 3) := by decide +kernel
theorem dX11_sheet_5 : decode cX11_sheet 5 = .ok (.ifCond .eq 9, 3) := by decide +kernel
theorem dX11_sheet_8 : decode cX11_sheet 8 = .ok (.iload_n 3, 1) := by decide +kernel
theorem dX11_sheet_9 : decode cX11_sheet 9 = .ok (.bipush 40, 2) := by decide +kernel
theorem dX11_sheet_11 : decode cX11_sheet 11 = .ok (.if_icmp .le 5, 3) := by decide +kernel
theorem dX11_sheet_14 : decode cX11_sheet 14 = .ok (.iconst (-1), 1) := by decide +kernel
theorem dX11_sheet_15 : decode cX11_sheet 15 = .ok (.ireturn, 1) := by decide +kernel
theorem dX11_sheet_16 : decode cX11_sheet 16 = .ok (.iload_n 3, 1) := by decide +kernel
theorem dX11_sheet_17 : decode cX11_sheet 17 = .ok (.ifCond .ge 6, 3) := by decide +kernel
theorem dX11_sheet_20 : decode cX11_sheet 20 = .ok (.bipush (-14), 2) := by decide +kernel
theorem dX11_sheet_22 : decode cX11_sheet 22 = .ok (.ireturn, 1) := by decide +kernel
theorem dX11_sheet_23 : decode cX11_sheet 23 = .ok (.aload_n 0, 1) := by decide +kernel
theorem dX11_sheet_24 : decode cX11_sheet 24 = .ok (.getfield 83, 3) := by decide +kernel
theorem dX11_sheet_27 : decode cX11_sheet 27 = .ok (.iload_n 1, 1) := by decide +kernel
theorem dX11_sheet_28 : decode cX11_sheet 28 = .ok (.iload_n 2, 1) := by decide +kernel
theorem dX11_sheet_29 : decode cX11_sheet 29 = .ok (.iastore, 1) := by decide +kernel
theorem dX11_sheet_30 : decode cX11_sheet 30 = .ok (.aload_n 0, 1) := by decide +kernel
theorem dX11_sheet_31 : decode cX11_sheet 31 = .ok (.getfield 86, 3) := by decide +kernel
theorem dX11_sheet_34 : decode cX11_sheet 34 = .ok (.iload_n 1, 1) := by decide +kernel
theorem dX11_sheet_35 : decode cX11_sheet 35 = .ok (.iload_n 3, 1) := by decide +kernel
theorem dX11_sheet_36 : decode cX11_sheet 36 = .ok (.iastore, 1) := by decide +kernel
theorem dX11_sheet_37 : decode cX11_sheet 37 = .ok (.iconst 0, 1) := by decide +kernel
theorem dX11_sheet_38 : decode cX11_sheet 38 = .ok (.istore 4, 2) := by decide +kernel
theorem dX11_sheet_40 : decode cX11_sheet 40 = .ok (.iload 4, 2) := by decide +kernel
theorem dX11_sheet_42 : decode cX11_sheet 42 = .ok (.bipush 40, 2) := by decide +kernel
theorem dX11_sheet_44 : decode cX11_sheet 44 = .ok (.if_icmp .ge 22, 3) := by decide +kernel
theorem dX11_sheet_47 : decode cX11_sheet 47 = .ok (.aload_n 0, 1) := by decide +kernel
theorem dX11_sheet_48 : decode cX11_sheet 48 = .ok (.getfield 89, 3) := by decide +kernel
theorem dX11_sheet_51 : decode cX11_sheet 51 = .ok (.bipush 40, 2) := by decide +kernel
theorem dX11_sheet_53 : decode cX11_sheet 53 = .ok (.iload_n 1, 1) := by decide +kernel
theorem dX11_sheet_54 : decode cX11_sheet 54 = .ok (.imul, 1) := by decide +kernel
theorem dX11_sheet_55 : decode cX11_sheet 55 = .ok (.iload 4, 2) := by decide +kernel
theorem dX11_sheet_57 : decode cX11_sheet 57 = .ok (.iadd, 1) := by decide +kernel
theorem dX11_sheet_58 : decode cX11_sheet 58 = .ok (.iconst 0, 1) := by decide +kernel
theorem dX11_sheet_59 : decode cX11_sheet 59 = .ok (.iastore, 1) := by decide +kernel
theorem dX11_sheet_60 : decode cX11_sheet 60 = .ok (.iinc 4 1, 3) := by decide +kernel
theorem dX11_sheet_63 : decode cX11_sheet 63 = .ok (.goto (-23), 3) := by decide +kernel
theorem dX11_sheet_66 : decode cX11_sheet 66 = .ok (.iconst 1, 1) := by decide +kernel
theorem dX11_sheet_67 : decode cX11_sheet 67 = .ok (.ireturn, 1) := by decide +kernel
theorem dX11_lay_0 : decode cX11_lay 0 = .ok (.iload_n 1, 1) := by decide +kernel
theorem dX11_lay_1 : decode cX11_lay 1 = .ok (.iconst 0, 1) := by decide +kernel
theorem dX11_lay_2 : decode cX11_lay 2 = .ok (.invokestatic 381, 3) := by decide +kernel
theorem dX11_lay_5 : decode cX11_lay 5 = .ok (.ifCond .ne 5, 3) := by decide +kernel
theorem dX11_lay_8 : decode cX11_lay 8 = .ok (.iconst (-1), 1) := by decide +kernel
theorem dX11_lay_9 : decode cX11_lay 9 = .ok (.ireturn, 1) := by decide +kernel
theorem dX11_lay_10 : decode cX11_lay 10 = .ok (.aload_n 0, 1) := by decide +kernel
theorem dX11_lay_11 : decode cX11_lay 11 = .ok (.getfield 83, 3) := by decide +kernel
theorem dX11_lay_14 : decode cX11_lay 14 = .ok (.iload_n 1, 1) := by decide +kernel
theorem dX11_lay_15 : decode cX11_lay 15 = .ok (.iaload, 1) := by decide +kernel
theorem dX11_lay_16 : decode cX11_lay 16 = .ok (.bipush (-4), 2) := by decide +kernel
theorem dX11_lay_18 : decode cX11_lay 18 = .ok (.if_icmp .ne 6, 3) := by decide +kernel
theorem dX11_lay_21 : decode cX11_lay 21 = .ok (.bipush (-11), 2) := by decide +kernel
theorem dX11_lay_23 : decode cX11_lay 23 = .ok (.ireturn, 1) := by decide +kernel
theorem dX11_measured_0 : decode cX11_measured 0 = .ok (.iload_n 1, 1) := by decide +kernel
theorem dX11_measured_1 : decode cX11_measured 1 = .ok (.iload_n 2, 1) := by decide +kernel
theorem dX11_measured_2 : decode cX11_measured 2 = .ok (.invokestatic 381, 3) := by decide +kernel
theorem dX11_measured_5 : decode cX11_measured 5 = .ok (.ifCond .eq 29, 3) := by decide +kernel
theorem dX11_measured_8 : decode cX11_measured 8 = .ok (.iload 4, 2) := by decide +kernel
theorem dX11_measured_10 : decode cX11_measured 10 = .ok (.i2l, 1) := by decide +kernel
theorem dX11_measured_11 : decode cX11_measured 11 = .ok (.lconst 0, 1) := by decide +kernel
theorem dX11_measured_12 : decode cX11_measured 12 = .ok (.ldc2_w 384, 3) := by decide +kernel
theorem dX11_measured_15 : decode cX11_measured 15 = .ok (.invokestatic 141, 3) := by decide +kernel
theorem dX11_measured_18 : decode cX11_measured 18 = .ok (.ifCond .eq 16, 3) := by decide +kernel
theorem dX11_measured_21 : decode cX11_measured 21 = .ok (.iload 5, 2) := by decide +kernel
theorem dX11_measured_23 : decode cX11_measured 23 = .ok (.i2l, 1) := by decide +kernel
theorem dX11_measured_24 : decode cX11_measured 24 = .ok (.lconst 0, 1) := by decide +kernel
theorem dX11_measured_25 : decode cX11_measured 25 = .ok (.ldc2_w 322, 3) := by decide +kernel
theorem dX11_measured_28 : decode cX11_measured 28 = .ok (.invokestatic 141, 3) := by decide +kernel
theorem dX11_measured_31 : decode cX11_measured 31 = .ok (.ifCond .ne 5, 3) := by decide +kernel
theorem dX11_measured_34 : decode cX11_measured 34 = .ok (.iconst (-1), 1) := by decide +kernel
theorem dX11_measured_35 : decode cX11_measured 35 = .ok (.ireturn, 1) := by decide +kernel
theorem dX11_measured_36 : decode cX11_measured 36 = .ok (.aload_n 0, 1) := by decide +kernel
theorem dX11_measured_37 : decode cX11_measured 37 = .ok (.getfield 83, 3) := by decide +kernel
theorem dX11_measured_40 : decode cX11_measured 40 = .ok (.iload_n 1, 1) := by decide +kernel
theorem dX11_measured_41 : decode cX11_measured 41 = .ok (.iaload, 1) := by decide +kernel
theorem dX11_measured_42 : decode cX11_measured 42 = .ok (.iload_n 2, 1) := by decide +kernel
theorem dX11_measured_43 : decode cX11_measured 43 = .ok (.if_icmp .eq 22, 3) := by decide +kernel
theorem dX11_measured_46 : decode cX11_measured 46 = .ok (.aload_n 0, 1) := by decide +kernel
theorem dX11_measured_47 : decode cX11_measured 47 = .ok (.getfield 83, 3) := by decide +kernel
theorem dX11_measured_50 : decode cX11_measured 50 = .ok (.iload_n 1, 1) := by decide +kernel
theorem dX11_measured_51 : decode cX11_measured 51 = .ok (.iaload, 1) := by decide +kernel
theorem dX11_measured_52 : decode cX11_measured 52 = .ok (.bipush (-4), 2) := by decide +kernel
theorem dX11_measured_54 : decode cX11_measured 54 = .ok (.if_icmp .ne 8, 3) := by decide +kernel
theorem dX11_measured_57 : decode cX11_measured 57 = .ok (.bipush (-11), 2) := by decide +kernel
theorem dX11_measured_59 : decode cX11_measured 59 = .ok (.goto 5, 3) := by decide +kernel
theorem dX11_measured_64 : decode cX11_measured 64 = .ok (.ireturn, 1) := by decide +kernel
theorem dX11_count_0 : decode cX11_count 0 = .ok (.iload_n 1, 1) := by decide +kernel
theorem dX11_count_1 : decode cX11_count 1 = .ok (.tableswitch 105 0 5 #[39, 44, 52, 57, 77, 82], 39) := by decide +kernel
theorem dX11_count_40 : decode cX11_count 40 = .ok (.aload_n 0, 1) := by decide +kernel
theorem dX11_count_41 : decode cX11_count 41 = .ok (.getfield 121, 3) := by decide +kernel
theorem dX11_count_44 : decode cX11_count 44 = .ok (.ireturn, 1) := by decide +kernel
theorem dX11_count_45 : decode cX11_count 45 = .ok (.aload_n 0, 1) := by decide +kernel
theorem dX11_count_46 : decode cX11_count 46 = .ok (.invokevirtual 324, 3) := by decide +kernel
theorem dX11_count_49 : decode cX11_count 49 = .ok (.invokestatic 378, 3) := by decide +kernel
theorem dX11_count_52 : decode cX11_count 52 = .ok (.ireturn, 1) := by decide +kernel
theorem dX11_count_53 : decode cX11_count 53 = .ok (.aload_n 0, 1) := by decide +kernel
theorem dX11_count_54 : decode cX11_count 54 = .ok (.getfield 288, 3) := by decide +kernel
theorem dX11_count_57 : decode cX11_count 57 = .ok (.ireturn, 1) := by decide +kernel
theorem dX11_count_58 : decode cX11_count 58 = .ok (.aload_n 0, 1) := by decide +kernel
theorem dX11_count_59 : decode cX11_count 59 = .ok (.invokevirtual 343, 3) := by decide +kernel
theorem dX11_count_62 : decode cX11_count 62 = .ok (.sipush 20000, 3) := by decide +kernel
theorem dX11_count_65 : decode cX11_count 65 = .ok (.if_icmp .le 8, 3) := by decide +kernel
theorem dX11_count_73 : decode cX11_count 73 = .ok (.aload_n 0, 1) := by decide +kernel
theorem dX11_count_74 : decode cX11_count 74 = .ok (.invokevirtual 343, 3) := by decide +kernel
theorem dX11_count_77 : decode cX11_count 77 = .ok (.ireturn, 1) := by decide +kernel
theorem dX11_count_78 : decode cX11_count 78 = .ok (.aload_n 0, 1) := by decide +kernel
theorem dX11_count_79 : decode cX11_count 79 = .ok (.getfield 136, 3) := by decide +kernel
theorem dX11_count_82 : decode cX11_count 82 = .ok (.ireturn, 1) := by decide +kernel
theorem dX11_count_83 : decode cX11_count 83 = .ok (.aload_n 0, 1) := by decide +kernel
theorem dX11_count_84 : decode cX11_count 84 = .ok (.getfield 83, 3) := by decide +kernel
theorem dX11_count_87 : decode cX11_count 87 = .ok (.iconst 0, 1) := by decide +kernel
theorem dX11_count_88 : decode cX11_count 88 = .ok (.iaload, 1) := by decide +kernel
theorem dX11_count_89 : decode cX11_count 89 = .ok (.bipush (-4), 2) := by decide +kernel
theorem dX11_count_91 : decode cX11_count 91 = .ok (.if_icmp .ne 8, 3) := by decide +kernel
theorem dX11_count_94 : decode cX11_count 94 = .ok (.bipush (-4), 2) := by decide +kernel
theorem dX11_count_96 : decode cX11_count 96 = .ok (.goto 9, 3) := by decide +kernel
theorem dX11_count_105 : decode cX11_count 105 = .ok (.ireturn, 1) := by decide +kernel
theorem dX11_count_106 : decode cX11_count 106 = .ok (.iconst (-1), 1) := by decide +kernel
theorem dX11_count_107 : decode cX11_count 107 = .ok (.ireturn, 1) := by decide +kernel
theorem dJ6_bitCount_0f7a4_0 : decode cJ6_bitCount_0f7a4 0 = .ok (.iload_n 0, 1) := by decide +kernel
theorem dJ6_bitCount_0f7a4_1 : decode cJ6_bitCount_0f7a4 1 = .ok (.iload_n 0, 1) := by decide +kernel
theorem dJ6_bitCount_0f7a4_2 : decode cJ6_bitCount_0f7a4 2 = .ok (.iconst 1, 1) := by decide +kernel
theorem dJ6_bitCount_0f7a4_3 : decode cJ6_bitCount_0f7a4 3 = .ok (.iushr, 1) := by decide +kernel
theorem dJ6_bitCount_0f7a4_4 : decode cJ6_bitCount_0f7a4 4 = .ok (.ldc_w 265, 3) := by decide +kernel
theorem dJ6_bitCount_0f7a4_7 : decode cJ6_bitCount_0f7a4 7 = .ok (.iand, 1) := by decide +kernel
theorem dJ6_bitCount_0f7a4_8 : decode cJ6_bitCount_0f7a4 8 = .ok (.isub, 1) := by decide +kernel
theorem dJ6_bitCount_0f7a4_9 : decode cJ6_bitCount_0f7a4 9 = .ok (.istore_n 0, 1) := by decide +kernel
theorem dJ6_bitCount_0f7a4_10 : decode cJ6_bitCount_0f7a4 10 = .ok (.iload_n 0, 1) := by decide +kernel
theorem dJ6_bitCount_0f7a4_11 : decode cJ6_bitCount_0f7a4 11 = .ok (.ldc_w 266, 3) := by decide +kernel
theorem dJ6_bitCount_0f7a4_14 : decode cJ6_bitCount_0f7a4 14 = .ok (.iand, 1) := by decide +kernel
theorem dJ6_bitCount_0f7a4_15 : decode cJ6_bitCount_0f7a4 15 = .ok (.iload_n 0, 1) := by decide +kernel
theorem dJ6_bitCount_0f7a4_16 : decode cJ6_bitCount_0f7a4 16 = .ok (.iconst 2, 1) := by decide +kernel
theorem dJ6_bitCount_0f7a4_17 : decode cJ6_bitCount_0f7a4 17 = .ok (.iushr, 1) := by decide +kernel
theorem dJ6_bitCount_0f7a4_18 : decode cJ6_bitCount_0f7a4 18 = .ok (.ldc_w 266, 3) := by decide +kernel
theorem dJ6_bitCount_0f7a4_21 : decode cJ6_bitCount_0f7a4 21 = .ok (.iand, 1) := by decide +kernel
theorem dJ6_bitCount_0f7a4_22 : decode cJ6_bitCount_0f7a4 22 = .ok (.iadd, 1) := by decide +kernel
theorem dJ6_bitCount_0f7a4_23 : decode cJ6_bitCount_0f7a4 23 = .ok (.istore_n 0, 1) := by decide +kernel
theorem dJ6_bitCount_0f7a4_24 : decode cJ6_bitCount_0f7a4 24 = .ok (.iload_n 0, 1) := by decide +kernel
theorem dJ6_bitCount_0f7a4_25 : decode cJ6_bitCount_0f7a4 25 = .ok (.iload_n 0, 1) := by decide +kernel
theorem dJ6_bitCount_0f7a4_26 : decode cJ6_bitCount_0f7a4 26 = .ok (.iconst 4, 1) := by decide +kernel
theorem dJ6_bitCount_0f7a4_27 : decode cJ6_bitCount_0f7a4 27 = .ok (.iushr, 1) := by decide +kernel
theorem dJ6_bitCount_0f7a4_28 : decode cJ6_bitCount_0f7a4 28 = .ok (.iadd, 1) := by decide +kernel
theorem dJ6_bitCount_0f7a4_29 : decode cJ6_bitCount_0f7a4 29 = .ok (.ldc_w 267, 3) := by decide +kernel
theorem dJ6_bitCount_0f7a4_32 : decode cJ6_bitCount_0f7a4 32 = .ok (.iand, 1) := by decide +kernel
theorem dJ6_bitCount_0f7a4_33 : decode cJ6_bitCount_0f7a4 33 = .ok (.istore_n 0, 1) := by decide +kernel
theorem dJ6_bitCount_0f7a4_34 : decode cJ6_bitCount_0f7a4 34 = .ok (.iload_n 0, 1) := by decide +kernel
theorem dJ6_bitCount_0f7a4_35 : decode cJ6_bitCount_0f7a4 35 = .ok (.iload_n 0, 1) := by decide +kernel
theorem dJ6_bitCount_0f7a4_36 : decode cJ6_bitCount_0f7a4 36 = .ok (.bipush 8, 2) := by decide +kernel
theorem dJ6_bitCount_0f7a4_38 : decode cJ6_bitCount_0f7a4 38 = .ok (.iushr, 1) := by decide +kernel
theorem dJ6_bitCount_0f7a4_39 : decode cJ6_bitCount_0f7a4 39 = .ok (.iadd, 1) := by decide +kernel
theorem dJ6_bitCount_0f7a4_40 : decode cJ6_bitCount_0f7a4 40 = .ok (.istore_n 0, 1) := by decide +kernel
theorem dJ6_bitCount_0f7a4_41 : decode cJ6_bitCount_0f7a4 41 = .ok (.iload_n 0, 1) := by decide +kernel
theorem dJ6_bitCount_0f7a4_42 : decode cJ6_bitCount_0f7a4 42 = .ok (.iload_n 0, 1) := by decide +kernel
theorem dJ6_bitCount_0f7a4_43 : decode cJ6_bitCount_0f7a4 43 = .ok (.bipush 16, 2) := by decide +kernel
theorem dJ6_bitCount_0f7a4_45 : decode cJ6_bitCount_0f7a4 45 = .ok (.iushr, 1) := by decide +kernel
theorem dJ6_bitCount_0f7a4_46 : decode cJ6_bitCount_0f7a4 46 = .ok (.iadd, 1) := by decide +kernel
theorem dJ6_bitCount_0f7a4_47 : decode cJ6_bitCount_0f7a4 47 = .ok (.istore_n 0, 1) := by decide +kernel
theorem dJ6_bitCount_0f7a4_48 : decode cJ6_bitCount_0f7a4 48 = .ok (.iload_n 0, 1) := by decide +kernel
theorem dJ6_bitCount_0f7a4_49 : decode cJ6_bitCount_0f7a4 49 = .ok (.bipush 63, 2) := by decide +kernel
theorem dJ6_bitCount_0f7a4_51 : decode cJ6_bitCount_0f7a4 51 = .ok (.iand, 1) := by decide +kernel
theorem dJ6_bitCount_0f7a4_52 : decode cJ6_bitCount_0f7a4 52 = .ok (.ireturn, 1) := by decide +kernel
theorem dJ7_fill_d0a16_0 : decode cJ7_fill_d0a16 0 = .ok (.iconst 0, 1) := by decide +kernel
theorem dJ7_fill_d0a16_1 : decode cJ7_fill_d0a16 1 = .ok (.istore_n 3, 1) := by decide +kernel
theorem dJ7_fill_d0a16_2 : decode cJ7_fill_d0a16 2 = .ok (.aload_n 0, 1) := by decide +kernel
theorem dJ7_fill_d0a16_3 : decode cJ7_fill_d0a16 3 = .ok (.arraylength, 1) := by decide +kernel
theorem dJ7_fill_d0a16_4 : decode cJ7_fill_d0a16 4 = .ok (.istore 4, 2) := by decide +kernel
theorem dJ7_fill_d0a16_6 : decode cJ7_fill_d0a16 6 = .ok (.iload_n 3, 1) := by decide +kernel
theorem dJ7_fill_d0a16_7 : decode cJ7_fill_d0a16 7 = .ok (.iload 4, 2) := by decide +kernel
theorem dJ7_fill_d0a16_9 : decode cJ7_fill_d0a16 9 = .ok (.if_icmp .ge 13, 3) := by decide +kernel
theorem dJ7_fill_d0a16_12 : decode cJ7_fill_d0a16 12 = .ok (.aload_n 0, 1) := by decide +kernel
theorem dJ7_fill_d0a16_13 : decode cJ7_fill_d0a16 13 = .ok (.iload_n 3, 1) := by decide +kernel
theorem dJ7_fill_d0a16_14 : decode cJ7_fill_d0a16 14 = .ok (.lload_n 1, 1) := by decide +kernel
theorem dJ7_fill_d0a16_15 : decode cJ7_fill_d0a16 15 = .ok (.lastore, 1) := by decide +kernel
theorem dJ7_fill_d0a16_16 : decode cJ7_fill_d0a16 16 = .ok (.iinc 3 1, 3) := by decide +kernel
theorem dJ7_fill_d0a16_19 : decode cJ7_fill_d0a16 19 = .ok (.goto (-13), 3) := by decide +kernel
theorem dJ7_fill_d0a16_22 : decode cJ7_fill_d0a16 22 = .ok (.return_, 1) := by decide +kernel
theorem dJ7_fill_53178_0 : decode cJ7_fill_53178 0 = .ok (.iconst 0, 1) := by decide +kernel
theorem dJ7_fill_53178_1 : decode cJ7_fill_53178 1 = .ok (.istore_n 2, 1) := by decide +kernel
theorem dJ7_fill_53178_2 : decode cJ7_fill_53178 2 = .ok (.aload_n 0, 1) := by decide +kernel
theorem dJ7_fill_53178_3 : decode cJ7_fill_53178 3 = .ok (.arraylength, 1) := by decide +kernel
theorem dJ7_fill_53178_4 : decode cJ7_fill_53178 4 = .ok (.istore_n 3, 1) := by decide +kernel
theorem dJ7_fill_53178_5 : decode cJ7_fill_53178 5 = .ok (.iload_n 2, 1) := by decide +kernel
theorem dJ7_fill_53178_6 : decode cJ7_fill_53178 6 = .ok (.iload_n 3, 1) := by decide +kernel
theorem dJ7_fill_53178_7 : decode cJ7_fill_53178 7 = .ok (.if_icmp .ge 13, 3) := by decide +kernel
theorem dJ7_fill_53178_10 : decode cJ7_fill_53178 10 = .ok (.aload_n 0, 1) := by decide +kernel
theorem dJ7_fill_53178_11 : decode cJ7_fill_53178 11 = .ok (.iload_n 2, 1) := by decide +kernel
theorem dJ7_fill_53178_12 : decode cJ7_fill_53178 12 = .ok (.iload_n 1, 1) := by decide +kernel
theorem dJ7_fill_53178_13 : decode cJ7_fill_53178 13 = .ok (.iastore, 1) := by decide +kernel
theorem dJ7_fill_53178_14 : decode cJ7_fill_53178 14 = .ok (.iinc 2 1, 3) := by decide +kernel
theorem dJ7_fill_53178_17 : decode cJ7_fill_53178 17 = .ok (.goto (-12), 3) := by decide +kernel
theorem dJ7_fill_53178_20 : decode cJ7_fill_53178 20 = .ok (.return_, 1) := by decide +kernel
theorem dL_law_0 : decode cL_law 0 = .ok (.new 7, 3) := by decide +kernel
theorem dL_law_3 : decode cL_law 3 = .ok (.dup, 1) := by decide +kernel
theorem dL_law_4 : decode cL_law 4 = .ok (.invokespecial 9, 3) := by decide +kernel
theorem dL_law_7 : decode cL_law 7 = .ok (.astore_n 1, 1) := by decide +kernel
theorem dL_law_8 : decode cL_law 8 = .ok (.new 10, 3) := by decide +kernel
theorem dL_law_11 : decode cL_law 11 = .ok (.dup, 1) := by decide +kernel
theorem dL_law_12 : decode cL_law 12 = .ok (.invokespecial 12, 3) := by decide +kernel
theorem dL_law_15 : decode cL_law 15 = .ok (.astore_n 2, 1) := by decide +kernel
theorem dL_law_16 : decode cL_law 16 = .ok (.iconst 0, 1) := by decide +kernel
theorem dL_law_17 : decode cL_law 17 = .ok (.istore_n 3, 1) := by decide +kernel
theorem dL_law_18 : decode cL_law 18 = .ok (.iload_n 3, 1) := by decide +kernel
theorem dL_law_19 : decode cL_law 19 = .ok (.aload_n 0, 1) := by decide +kernel
theorem dL_law_20 : decode cL_law 20 = .ok (.arraylength, 1) := by decide +kernel
theorem dL_law_21 : decode cL_law 21 = .ok (.bipush 6, 2) := by decide +kernel
theorem dL_law_23 : decode cL_law 23 = .ok (.isub, 1) := by decide +kernel
theorem dL_law_24 : decode cL_law 24 = .ok (.if_icmp .gt 1099, 3) := by decide +kernel
theorem dL_law_27 : decode cL_law 27 = .ok (.aload_n 0, 1) := by decide +kernel
theorem dL_law_28 : decode cL_law 28 = .ok (.iload_n 3, 1) := by decide +kernel
theorem dL_law_29 : decode cL_law 29 = .ok (.iaload, 1) := by decide +kernel
theorem dL_law_30 : decode cL_law 30 = .ok (.bipush 31, 2) := by decide +kernel
theorem dL_law_32 : decode cL_law 32 = .ok (.iand, 1) := by decide +kernel
theorem dL_law_33 : decode cL_law 33 = .ok (.tableswitch 1084 0 30 #[139, 192, 215, 228, 241, 274, 297, 330, 363, 402, 451, 484, 507, 530, 563, 596, 619, 652, 695, 718, 741, 764, 777, 800, 833, 866, 889, 912, 955, 998, 1061], 139) := by decide +kernel
theorem dL_law_172 : decode cL_law 172 = .ok (.aload_n 1, 1) := by decide +kernel
theorem dL_law_173 : decode cL_law 173 = .ok (.aload_n 0, 1) := by decide +kernel
theorem dL_law_174 : decode cL_law 174 = .ok (.iload_n 3, 1) := by decide +kernel
theorem dL_law_175 : decode cL_law 175 = .ok (.iconst 1, 1) := by decide +kernel
theorem dL_law_176 : decode cL_law 176 = .ok (.iadd, 1) := by decide +kernel
theorem dL_law_177 : decode cL_law 177 = .ok (.iaload, 1) := by decide +kernel
theorem dL_law_178 : decode cL_law 178 = .ok (.i2l, 1) := by decide +kernel
theorem dL_law_179 : decode cL_law 179 = .ok (.bipush 32, 2) := by decide +kernel
theorem dL_law_181 : decode cL_law 181 = .ok (.lshl, 1) := by decide +kernel
theorem dL_law_182 : decode cL_law 182 = .ok (.aload_n 0, 1) := by decide +kernel
theorem dL_law_183 : decode cL_law 183 = .ok (.iload_n 3, 1) := by decide +kernel
theorem dL_law_184 : decode cL_law 184 = .ok (.iconst 2, 1) := by decide +kernel
theorem dL_law_185 : decode cL_law 185 = .ok (.iadd, 1) := by decide +kernel
theorem dL_law_186 : decode cL_law 186 = .ok (.iaload, 1) := by decide +kernel
theorem dL_law_187 : decode cL_law 187 = .ok (.i2l, 1) := by decide +kernel
theorem dL_law_188 : decode cL_law 188 = .ok (.ldc2_w 13, 3) := by decide +kernel
theorem dL_law_191 : decode cL_law 191 = .ok (.land, 1) := by decide +kernel
theorem dL_law_192 : decode cL_law 192 = .ok (.lor, 1) := by decide +kernel
theorem dL_law_193 : decode cL_law 193 = .ok (.invokevirtual 15, 3) := by decide +kernel
theorem dL_law_196 : decode cL_law 196 = .ok (.aload_n 2, 1) := by decide +kernel
theorem dL_law_197 : decode cL_law 197 = .ok (.aload_n 0, 1) := by decide +kernel
theorem dL_law_198 : decode cL_law 198 = .ok (.iload_n 3, 1) := by decide +kernel
theorem dL_law_199 : decode cL_law 199 = .ok (.iconst 1, 1) := by decide +kernel
theorem dL_law_200 : decode cL_law 200 = .ok (.iadd, 1) := by decide +kernel
theorem dL_law_201 : decode cL_law 201 = .ok (.iaload, 1) := by decide +kernel
theorem dL_law_202 : decode cL_law 202 = .ok (.i2l, 1) := by decide +kernel
theorem dL_law_203 : decode cL_law 203 = .ok (.bipush 32, 2) := by decide +kernel
theorem dL_law_205 : decode cL_law 205 = .ok (.lshl, 1) := by decide +kernel
theorem dL_law_206 : decode cL_law 206 = .ok (.aload_n 0, 1) := by decide +kernel
theorem dL_law_207 : decode cL_law 207 = .ok (.iload_n 3, 1) := by decide +kernel
theorem dL_law_208 : decode cL_law 208 = .ok (.iconst 2, 1) := by decide +kernel
theorem dL_law_209 : decode cL_law 209 = .ok (.iadd, 1) := by decide +kernel
theorem dL_law_210 : decode cL_law 210 = .ok (.iaload, 1) := by decide +kernel
theorem dL_law_211 : decode cL_law 211 = .ok (.i2l, 1) := by decide +kernel
theorem dL_law_212 : decode cL_law 212 = .ok (.ldc2_w 13, 3) := by decide +kernel
theorem dL_law_215 : decode cL_law 215 = .ok (.land, 1) := by decide +kernel
theorem dL_law_216 : decode cL_law 216 = .ok (.lor, 1) := by decide +kernel
theorem dL_law_217 : decode cL_law 217 = .ok (.invokevirtual 19, 3) := by decide +kernel
theorem dL_law_220 : decode cL_law 220 = .ok (.if_icmp .eq 897, 3) := by decide +kernel
theorem dL_law_225 : decode cL_law 225 = .ok (.aload_n 1, 1) := by decide +kernel
theorem dL_law_226 : decode cL_law 226 = .ok (.aload_n 0, 1) := by decide +kernel
theorem dL_law_227 : decode cL_law 227 = .ok (.iload_n 3, 1) := by decide +kernel
theorem dL_law_228 : decode cL_law 228 = .ok (.iconst 1, 1) := by decide +kernel
theorem dL_law_229 : decode cL_law 229 = .ok (.iadd, 1) := by decide +kernel
theorem dL_law_230 : decode cL_law 230 = .ok (.iaload, 1) := by decide +kernel
theorem dL_law_231 : decode cL_law 231 = .ok (.invokevirtual 20, 3) := by decide +kernel
theorem dL_law_234 : decode cL_law 234 = .ok (.aload_n 2, 1) := by decide +kernel
theorem dL_law_235 : decode cL_law 235 = .ok (.aload_n 0, 1) := by decide +kernel
theorem dL_law_236 : decode cL_law 236 = .ok (.iload_n 3, 1) := by decide +kernel
theorem dL_law_237 : decode cL_law 237 = .ok (.iconst 1, 1) := by decide +kernel
theorem dL_law_238 : decode cL_law 238 = .ok (.iadd, 1) := by decide +kernel
theorem dL_law_239 : decode cL_law 239 = .ok (.iaload, 1) := by decide +kernel
theorem dL_law_240 : decode cL_law 240 = .ok (.invokevirtual 24, 3) := by decide +kernel
theorem dL_law_243 : decode cL_law 243 = .ok (.if_icmp .eq 874, 3) := by decide +kernel
theorem dL_law_248 : decode cL_law 248 = .ok (.aload_n 1, 1) := by decide +kernel
theorem dL_law_249 : decode cL_law 249 = .ok (.invokevirtual 25, 3) := by decide +kernel
theorem dL_law_252 : decode cL_law 252 = .ok (.aload_n 2, 1) := by decide +kernel
theorem dL_law_253 : decode cL_law 253 = .ok (.invokevirtual 29, 3) := by decide +kernel
theorem dL_law_256 : decode cL_law 256 = .ok (.if_icmp .eq 861, 3) := by decide +kernel
theorem dL_law_261 : decode cL_law 261 = .ok (.aload_n 1, 1) := by decide +kernel
theorem dL_law_262 : decode cL_law 262 = .ok (.invokevirtual 30, 3) := by decide +kernel
theorem dL_law_265 : decode cL_law 265 = .ok (.aload_n 2, 1) := by decide +kernel
theorem dL_law_266 : decode cL_law 266 = .ok (.invokevirtual 33, 3) := by decide +kernel
theorem dL_law_269 : decode cL_law 269 = .ok (.if_icmp .eq 848, 3) := by decide +kernel
theorem dL_law_274 : decode cL_law 274 = .ok (.aload_n 1, 1) := by decide +kernel
theorem dL_law_275 : decode cL_law 275 = .ok (.aload_n 0, 1) := by decide +kernel
theorem dL_law_276 : decode cL_law 276 = .ok (.iload_n 3, 1) := by decide +kernel
theorem dL_law_277 : decode cL_law 277 = .ok (.iconst 1, 1) := by decide +kernel
theorem dL_law_278 : decode cL_law 278 = .ok (.iadd, 1) := by decide +kernel
theorem dL_law_279 : decode cL_law 279 = .ok (.iaload, 1) := by decide +kernel
theorem dL_law_280 : decode cL_law 280 = .ok (.aload_n 0, 1) := by decide +kernel
theorem dL_law_281 : decode cL_law 281 = .ok (.iload_n 3, 1) := by decide +kernel
theorem dL_law_282 : decode cL_law 282 = .ok (.iconst 2, 1) := by decide +kernel
theorem dL_law_283 : decode cL_law 283 = .ok (.iadd, 1) := by decide +kernel
theorem dL_law_284 : decode cL_law 284 = .ok (.iaload, 1) := by decide +kernel
theorem dL_law_285 : decode cL_law 285 = .ok (.invokevirtual 34, 3) := by decide +kernel
theorem dL_law_288 : decode cL_law 288 = .ok (.aload_n 2, 1) := by decide +kernel
theorem dL_law_289 : decode cL_law 289 = .ok (.aload_n 0, 1) := by decide +kernel
theorem dL_law_290 : decode cL_law 290 = .ok (.iload_n 3, 1) := by decide +kernel
theorem dL_law_291 : decode cL_law 291 = .ok (.iconst 1, 1) := by decide +kernel
theorem dL_law_292 : decode cL_law 292 = .ok (.iadd, 1) := by decide +kernel
theorem dL_law_293 : decode cL_law 293 = .ok (.iaload, 1) := by decide +kernel
theorem dL_law_294 : decode cL_law 294 = .ok (.aload_n 0, 1) := by decide +kernel
theorem dL_law_295 : decode cL_law 295 = .ok (.iload_n 3, 1) := by decide +kernel
theorem dL_law_296 : decode cL_law 296 = .ok (.iconst 2, 1) := by decide +kernel
theorem dL_law_297 : decode cL_law 297 = .ok (.iadd, 1) := by decide +kernel
theorem dL_law_298 : decode cL_law 298 = .ok (.iaload, 1) := by decide +kernel
theorem dL_law_299 : decode cL_law 299 = .ok (.invokevirtual 38, 3) := by decide +kernel
theorem dL_law_302 : decode cL_law 302 = .ok (.if_icmp .eq 815, 3) := by decide +kernel
theorem dL_law_307 : decode cL_law 307 = .ok (.aload_n 1, 1) := by decide +kernel
theorem dL_law_308 : decode cL_law 308 = .ok (.aload_n 0, 1) := by decide +kernel
theorem dL_law_309 : decode cL_law 309 = .ok (.iload_n 3, 1) := by decide +kernel
theorem dL_law_310 : decode cL_law 310 = .ok (.iconst 1, 1) := by decide +kernel
theorem dL_law_311 : decode cL_law 311 = .ok (.iadd, 1) := by decide +kernel
theorem dL_law_312 : decode cL_law 312 = .ok (.iaload, 1) := by decide +kernel
theorem dL_law_313 : decode cL_law 313 = .ok (.invokevirtual 39, 3) := by decide +kernel
theorem dL_law_316 : decode cL_law 316 = .ok (.aload_n 2, 1) := by decide +kernel
theorem dL_law_317 : decode cL_law 317 = .ok (.aload_n 0, 1) := by decide +kernel
theorem dL_law_318 : decode cL_law 318 = .ok (.iload_n 3, 1) := by decide +kernel
theorem dL_law_319 : decode cL_law 319 = .ok (.iconst 1, 1) := by decide +kernel
theorem dL_law_320 : decode cL_law 320 = .ok (.iadd, 1) := by decide +kernel
theorem dL_law_321 : decode cL_law 321 = .ok (.iaload, 1) := by decide +kernel
theorem dL_law_322 : decode cL_law 322 = .ok (.invokevirtual 42, 3) := by decide +kernel
theorem dL_law_325 : decode cL_law 325 = .ok (.if_icmp .eq 792, 3) := by decide +kernel
theorem dL_law_330 : decode cL_law 330 = .ok (.aload_n 1, 1) := by decide +kernel
theorem dL_law_331 : decode cL_law 331 = .ok (.aload_n 0, 1) := by decide +kernel
theorem dL_law_332 : decode cL_law 332 = .ok (.iload_n 3, 1) := by decide +kernel
theorem dL_law_333 : decode cL_law 333 = .ok (.iconst 1, 1) := by decide +kernel
theorem dL_law_334 : decode cL_law 334 = .ok (.iadd, 1) := by decide +kernel
theorem dL_law_335 : decode cL_law 335 = .ok (.iaload, 1) := by decide +kernel
theorem dL_law_336 : decode cL_law 336 = .ok (.aload_n 0, 1) := by decide +kernel
theorem dL_law_337 : decode cL_law 337 = .ok (.iload_n 3, 1) := by decide +kernel
theorem dL_law_338 : decode cL_law 338 = .ok (.iconst 2, 1) := by decide +kernel
theorem dL_law_339 : decode cL_law 339 = .ok (.iadd, 1) := by decide +kernel
theorem dL_law_340 : decode cL_law 340 = .ok (.iaload, 1) := by decide +kernel
theorem dL_law_341 : decode cL_law 341 = .ok (.invokevirtual 43, 3) := by decide +kernel
theorem dL_law_344 : decode cL_law 344 = .ok (.aload_n 2, 1) := by decide +kernel
theorem dL_law_345 : decode cL_law 345 = .ok (.aload_n 0, 1) := by decide +kernel
theorem dL_law_346 : decode cL_law 346 = .ok (.iload_n 3, 1) := by decide +kernel
theorem dL_law_347 : decode cL_law 347 = .ok (.iconst 1, 1) := by decide +kernel
theorem dL_law_348 : decode cL_law 348 = .ok (.iadd, 1) := by decide +kernel
theorem dL_law_349 : decode cL_law 349 = .ok (.iaload, 1) := by decide +kernel
theorem dL_law_350 : decode cL_law 350 = .ok (.aload_n 0, 1) := by decide +kernel
theorem dL_law_351 : decode cL_law 351 = .ok (.iload_n 3, 1) := by decide +kernel
theorem dL_law_352 : decode cL_law 352 = .ok (.iconst 2, 1) := by decide +kernel
theorem dL_law_353 : decode cL_law 353 = .ok (.iadd, 1) := by decide +kernel
theorem dL_law_354 : decode cL_law 354 = .ok (.iaload, 1) := by decide +kernel
theorem dL_law_355 : decode cL_law 355 = .ok (.invokevirtual 46, 3) := by decide +kernel
theorem dL_law_358 : decode cL_law 358 = .ok (.if_icmp .eq 759, 3) := by decide +kernel
theorem dL_law_363 : decode cL_law 363 = .ok (.aload_n 1, 1) := by decide +kernel
theorem dL_law_364 : decode cL_law 364 = .ok (.aload_n 0, 1) := by decide +kernel
theorem dL_law_365 : decode cL_law 365 = .ok (.iload_n 3, 1) := by decide +kernel
theorem dL_law_366 : decode cL_law 366 = .ok (.iconst 1, 1) := by decide +kernel
theorem dL_law_367 : decode cL_law 367 = .ok (.iadd, 1) := by decide +kernel
theorem dL_law_368 : decode cL_law 368 = .ok (.iaload, 1) := by decide +kernel
theorem dL_law_369 : decode cL_law 369 = .ok (.aload_n 0, 1) := by decide +kernel
theorem dL_law_370 : decode cL_law 370 = .ok (.iload_n 3, 1) := by decide +kernel
theorem dL_law_371 : decode cL_law 371 = .ok (.iconst 2, 1) := by decide +kernel
theorem dL_law_372 : decode cL_law 372 = .ok (.iadd, 1) := by decide +kernel
theorem dL_law_373 : decode cL_law 373 = .ok (.iaload, 1) := by decide +kernel
theorem dL_law_374 : decode cL_law 374 = .ok (.invokevirtual 47, 3) := by decide +kernel
theorem dL_law_377 : decode cL_law 377 = .ok (.aload_n 2, 1) := by decide +kernel
theorem dL_law_378 : decode cL_law 378 = .ok (.aload_n 0, 1) := by decide +kernel
theorem dL_law_379 : decode cL_law 379 = .ok (.iload_n 3, 1) := by decide +kernel
theorem dL_law_380 : decode cL_law 380 = .ok (.iconst 1, 1) := by decide +kernel
theorem dL_law_381 : decode cL_law 381 = .ok (.iadd, 1) := by decide +kernel
theorem dL_law_382 : decode cL_law 382 = .ok (.iaload, 1) := by decide +kernel
theorem dL_law_383 : decode cL_law 383 = .ok (.aload_n 0, 1) := by decide +kernel
theorem dL_law_384 : decode cL_law 384 = .ok (.iload_n 3, 1) := by decide +kernel
theorem dL_law_385 : decode cL_law 385 = .ok (.iconst 2, 1) := by decide +kernel
theorem dL_law_386 : decode cL_law 386 = .ok (.iadd, 1) := by decide +kernel
theorem dL_law_387 : decode cL_law 387 = .ok (.iaload, 1) := by decide +kernel
theorem dL_law_388 : decode cL_law 388 = .ok (.invokevirtual 50, 3) := by decide +kernel
theorem dL_law_391 : decode cL_law 391 = .ok (.if_icmp .eq 726, 3) := by decide +kernel
theorem dL_law_396 : decode cL_law 396 = .ok (.aload_n 1, 1) := by decide +kernel
theorem dL_law_397 : decode cL_law 397 = .ok (.aload_n 0, 1) := by decide +kernel
theorem dL_law_398 : decode cL_law 398 = .ok (.iload_n 3, 1) := by decide +kernel
theorem dL_law_399 : decode cL_law 399 = .ok (.iconst 1, 1) := by decide +kernel
theorem dL_law_400 : decode cL_law 400 = .ok (.iadd, 1) := by decide +kernel
theorem dL_law_401 : decode cL_law 401 = .ok (.iaload, 1) := by decide +kernel
theorem dL_law_402 : decode cL_law 402 = .ok (.ifCond .eq 7, 3) := by decide +kernel
theorem dL_law_405 : decode cL_law 405 = .ok (.iconst 1, 1) := by decide +kernel
theorem dL_law_406 : decode cL_law 406 = .ok (.goto 4, 3) := by decide +kernel
theorem dL_law_409 : decode cL_law 409 = .ok (.iconst 0, 1) := by decide +kernel
theorem dL_law_410 : decode cL_law 410 = .ok (.invokevirtual 51, 3) := by decide +kernel
theorem dL_law_413 : decode cL_law 413 = .ok (.aload_n 2, 1) := by decide +kernel
theorem dL_law_414 : decode cL_law 414 = .ok (.aload_n 0, 1) := by decide +kernel
theorem dL_law_415 : decode cL_law 415 = .ok (.iload_n 3, 1) := by decide +kernel
theorem dL_law_416 : decode cL_law 416 = .ok (.iconst 1, 1) := by decide +kernel
theorem dL_law_417 : decode cL_law 417 = .ok (.iadd, 1) := by decide +kernel
theorem dL_law_418 : decode cL_law 418 = .ok (.iaload, 1) := by decide +kernel
theorem dL_law_419 : decode cL_law 419 = .ok (.ifCond .eq 7, 3) := by decide +kernel
theorem dL_law_422 : decode cL_law 422 = .ok (.iconst 1, 1) := by decide +kernel
theorem dL_law_423 : decode cL_law 423 = .ok (.goto 4, 3) := by decide +kernel
theorem dL_law_426 : decode cL_law 426 = .ok (.iconst 0, 1) := by decide +kernel
theorem dL_law_427 : decode cL_law 427 = .ok (.invokevirtual 55, 3) := by decide +kernel
theorem dL_law_430 : decode cL_law 430 = .ok (.if_icmp .eq 687, 3) := by decide +kernel
theorem dL_law_435 : decode cL_law 435 = .ok (.aload_n 1, 1) := by decide +kernel
theorem dL_law_436 : decode cL_law 436 = .ok (.aload_n 0, 1) := by decide +kernel
theorem dL_law_437 : decode cL_law 437 = .ok (.iload_n 3, 1) := by decide +kernel
theorem dL_law_438 : decode cL_law 438 = .ok (.iconst 1, 1) := by decide +kernel
theorem dL_law_439 : decode cL_law 439 = .ok (.iadd, 1) := by decide +kernel
theorem dL_law_440 : decode cL_law 440 = .ok (.iaload, 1) := by decide +kernel
theorem dL_law_441 : decode cL_law 441 = .ok (.aload_n 0, 1) := by decide +kernel
theorem dL_law_442 : decode cL_law 442 = .ok (.iload_n 3, 1) := by decide +kernel
theorem dL_law_443 : decode cL_law 443 = .ok (.iconst 2, 1) := by decide +kernel
theorem dL_law_444 : decode cL_law 444 = .ok (.iadd, 1) := by decide +kernel
theorem dL_law_445 : decode cL_law 445 = .ok (.iaload, 1) := by decide +kernel
theorem dL_law_446 : decode cL_law 446 = .ok (.ifCond .eq 7, 3) := by decide +kernel
theorem dL_law_449 : decode cL_law 449 = .ok (.iconst 1, 1) := by decide +kernel
theorem dL_law_450 : decode cL_law 450 = .ok (.goto 4, 3) := by decide +kernel
theorem dL_law_453 : decode cL_law 453 = .ok (.iconst 0, 1) := by decide +kernel
theorem dL_law_454 : decode cL_law 454 = .ok (.invokevirtual 56, 3) := by decide +kernel
theorem dL_law_457 : decode cL_law 457 = .ok (.aload_n 2, 1) := by decide +kernel
theorem dL_law_458 : decode cL_law 458 = .ok (.aload_n 0, 1) := by decide +kernel
theorem dL_law_459 : decode cL_law 459 = .ok (.iload_n 3, 1) := by decide +kernel
theorem dL_law_460 : decode cL_law 460 = .ok (.iconst 1, 1) := by decide +kernel
theorem dL_law_461 : decode cL_law 461 = .ok (.iadd, 1) := by decide +kernel
theorem dL_law_462 : decode cL_law 462 = .ok (.iaload, 1) := by decide +kernel
theorem dL_law_463 : decode cL_law 463 = .ok (.aload_n 0, 1) := by decide +kernel
theorem dL_law_464 : decode cL_law 464 = .ok (.iload_n 3, 1) := by decide +kernel
theorem dL_law_465 : decode cL_law 465 = .ok (.iconst 2, 1) := by decide +kernel
theorem dL_law_466 : decode cL_law 466 = .ok (.iadd, 1) := by decide +kernel
theorem dL_law_467 : decode cL_law 467 = .ok (.iaload, 1) := by decide +kernel
theorem dL_law_468 : decode cL_law 468 = .ok (.ifCond .eq 7, 3) := by decide +kernel
theorem dL_law_471 : decode cL_law 471 = .ok (.iconst 1, 1) := by decide +kernel
theorem dL_law_472 : decode cL_law 472 = .ok (.goto 4, 3) := by decide +kernel
theorem dL_law_475 : decode cL_law 475 = .ok (.iconst 0, 1) := by decide +kernel
theorem dL_law_476 : decode cL_law 476 = .ok (.invokevirtual 60, 3) := by decide +kernel
theorem dL_law_479 : decode cL_law 479 = .ok (.if_icmp .eq 638, 3) := by decide +kernel
theorem dL_law_484 : decode cL_law 484 = .ok (.aload_n 1, 1) := by decide +kernel
theorem dL_law_485 : decode cL_law 485 = .ok (.aload_n 0, 1) := by decide +kernel
theorem dL_law_486 : decode cL_law 486 = .ok (.iload_n 3, 1) := by decide +kernel
theorem dL_law_487 : decode cL_law 487 = .ok (.iconst 1, 1) := by decide +kernel
theorem dL_law_488 : decode cL_law 488 = .ok (.iadd, 1) := by decide +kernel
theorem dL_law_489 : decode cL_law 489 = .ok (.iaload, 1) := by decide +kernel
theorem dL_law_490 : decode cL_law 490 = .ok (.aload_n 0, 1) := by decide +kernel
theorem dL_law_491 : decode cL_law 491 = .ok (.iload_n 3, 1) := by decide +kernel
theorem dL_law_492 : decode cL_law 492 = .ok (.iconst 2, 1) := by decide +kernel
theorem dL_law_493 : decode cL_law 493 = .ok (.iadd, 1) := by decide +kernel
theorem dL_law_494 : decode cL_law 494 = .ok (.iaload, 1) := by decide +kernel
theorem dL_law_495 : decode cL_law 495 = .ok (.invokevirtual 61, 3) := by decide +kernel
theorem dL_law_498 : decode cL_law 498 = .ok (.aload_n 2, 1) := by decide +kernel
theorem dL_law_499 : decode cL_law 499 = .ok (.aload_n 0, 1) := by decide +kernel
theorem dL_law_500 : decode cL_law 500 = .ok (.iload_n 3, 1) := by decide +kernel
theorem dL_law_501 : decode cL_law 501 = .ok (.iconst 1, 1) := by decide +kernel
theorem dL_law_502 : decode cL_law 502 = .ok (.iadd, 1) := by decide +kernel
theorem dL_law_503 : decode cL_law 503 = .ok (.iaload, 1) := by decide +kernel
theorem dL_law_504 : decode cL_law 504 = .ok (.aload_n 0, 1) := by decide +kernel
theorem dL_law_505 : decode cL_law 505 = .ok (.iload_n 3, 1) := by decide +kernel
theorem dL_law_506 : decode cL_law 506 = .ok (.iconst 2, 1) := by decide +kernel
theorem dL_law_507 : decode cL_law 507 = .ok (.iadd, 1) := by decide +kernel
theorem dL_law_508 : decode cL_law 508 = .ok (.iaload, 1) := by decide +kernel
theorem dL_law_509 : decode cL_law 509 = .ok (.invokevirtual 64, 3) := by decide +kernel
theorem dL_law_512 : decode cL_law 512 = .ok (.if_icmp .eq 605, 3) := by decide +kernel
theorem dL_law_517 : decode cL_law 517 = .ok (.aload_n 1, 1) := by decide +kernel
theorem dL_law_518 : decode cL_law 518 = .ok (.aload_n 0, 1) := by decide +kernel
theorem dL_law_519 : decode cL_law 519 = .ok (.iload_n 3, 1) := by decide +kernel
theorem dL_law_520 : decode cL_law 520 = .ok (.iconst 1, 1) := by decide +kernel
theorem dL_law_521 : decode cL_law 521 = .ok (.iadd, 1) := by decide +kernel
theorem dL_law_522 : decode cL_law 522 = .ok (.iaload, 1) := by decide +kernel
theorem dL_law_523 : decode cL_law 523 = .ok (.invokevirtual 65, 3) := by decide +kernel
theorem dL_law_526 : decode cL_law 526 = .ok (.aload_n 2, 1) := by decide +kernel
theorem dL_law_527 : decode cL_law 527 = .ok (.aload_n 0, 1) := by decide +kernel
theorem dL_law_528 : decode cL_law 528 = .ok (.iload_n 3, 1) := by decide +kernel
theorem dL_law_529 : decode cL_law 529 = .ok (.iconst 1, 1) := by decide +kernel
theorem dL_law_530 : decode cL_law 530 = .ok (.iadd, 1) := by decide +kernel
theorem dL_law_531 : decode cL_law 531 = .ok (.iaload, 1) := by decide +kernel
theorem dL_law_532 : decode cL_law 532 = .ok (.invokevirtual 68, 3) := by decide +kernel
theorem dL_law_535 : decode cL_law 535 = .ok (.if_icmp .eq 582, 3) := by decide +kernel
theorem dL_law_540 : decode cL_law 540 = .ok (.aload_n 1, 1) := by decide +kernel
theorem dL_law_541 : decode cL_law 541 = .ok (.aload_n 0, 1) := by decide +kernel
theorem dL_law_542 : decode cL_law 542 = .ok (.iload_n 3, 1) := by decide +kernel
theorem dL_law_543 : decode cL_law 543 = .ok (.iconst 1, 1) := by decide +kernel
theorem dL_law_544 : decode cL_law 544 = .ok (.iadd, 1) := by decide +kernel
theorem dL_law_545 : decode cL_law 545 = .ok (.iaload, 1) := by decide +kernel
theorem dL_law_546 : decode cL_law 546 = .ok (.invokevirtual 69, 3) := by decide +kernel
theorem dL_law_549 : decode cL_law 549 = .ok (.aload_n 2, 1) := by decide +kernel
theorem dL_law_550 : decode cL_law 550 = .ok (.aload_n 0, 1) := by decide +kernel
theorem dL_law_551 : decode cL_law 551 = .ok (.iload_n 3, 1) := by decide +kernel
theorem dL_law_552 : decode cL_law 552 = .ok (.iconst 1, 1) := by decide +kernel
theorem dL_law_553 : decode cL_law 553 = .ok (.iadd, 1) := by decide +kernel
theorem dL_law_554 : decode cL_law 554 = .ok (.iaload, 1) := by decide +kernel
theorem dL_law_555 : decode cL_law 555 = .ok (.invokevirtual 72, 3) := by decide +kernel
theorem dL_law_558 : decode cL_law 558 = .ok (.if_icmp .eq 559, 3) := by decide +kernel
theorem dL_law_563 : decode cL_law 563 = .ok (.aload_n 1, 1) := by decide +kernel
theorem dL_law_564 : decode cL_law 564 = .ok (.aload_n 0, 1) := by decide +kernel
theorem dL_law_565 : decode cL_law 565 = .ok (.iload_n 3, 1) := by decide +kernel
theorem dL_law_566 : decode cL_law 566 = .ok (.iconst 1, 1) := by decide +kernel
theorem dL_law_567 : decode cL_law 567 = .ok (.iadd, 1) := by decide +kernel
theorem dL_law_568 : decode cL_law 568 = .ok (.iaload, 1) := by decide +kernel
theorem dL_law_569 : decode cL_law 569 = .ok (.aload_n 0, 1) := by decide +kernel
theorem dL_law_570 : decode cL_law 570 = .ok (.iload_n 3, 1) := by decide +kernel
theorem dL_law_571 : decode cL_law 571 = .ok (.iconst 2, 1) := by decide +kernel
theorem dL_law_572 : decode cL_law 572 = .ok (.iadd, 1) := by decide +kernel
theorem dL_law_573 : decode cL_law 573 = .ok (.iaload, 1) := by decide +kernel
theorem dL_law_574 : decode cL_law 574 = .ok (.invokevirtual 73, 3) := by decide +kernel
theorem dL_law_577 : decode cL_law 577 = .ok (.aload_n 2, 1) := by decide +kernel
theorem dL_law_578 : decode cL_law 578 = .ok (.aload_n 0, 1) := by decide +kernel
theorem dL_law_579 : decode cL_law 579 = .ok (.iload_n 3, 1) := by decide +kernel
theorem dL_law_580 : decode cL_law 580 = .ok (.iconst 1, 1) := by decide +kernel
theorem dL_law_581 : decode cL_law 581 = .ok (.iadd, 1) := by decide +kernel
theorem dL_law_582 : decode cL_law 582 = .ok (.iaload, 1) := by decide +kernel
theorem dL_law_583 : decode cL_law 583 = .ok (.aload_n 0, 1) := by decide +kernel
theorem dL_law_584 : decode cL_law 584 = .ok (.iload_n 3, 1) := by decide +kernel
theorem dL_law_585 : decode cL_law 585 = .ok (.iconst 2, 1) := by decide +kernel
theorem dL_law_586 : decode cL_law 586 = .ok (.iadd, 1) := by decide +kernel
theorem dL_law_587 : decode cL_law 587 = .ok (.iaload, 1) := by decide +kernel
theorem dL_law_588 : decode cL_law 588 = .ok (.invokevirtual 76, 3) := by decide +kernel
theorem dL_law_591 : decode cL_law 591 = .ok (.if_icmp .eq 526, 3) := by decide +kernel
theorem dL_law_596 : decode cL_law 596 = .ok (.aload_n 1, 1) := by decide +kernel
theorem dL_law_597 : decode cL_law 597 = .ok (.aload_n 0, 1) := by decide +kernel
theorem dL_law_598 : decode cL_law 598 = .ok (.iload_n 3, 1) := by decide +kernel
theorem dL_law_599 : decode cL_law 599 = .ok (.iconst 1, 1) := by decide +kernel
theorem dL_law_600 : decode cL_law 600 = .ok (.iadd, 1) := by decide +kernel
theorem dL_law_601 : decode cL_law 601 = .ok (.iaload, 1) := by decide +kernel
theorem dL_law_602 : decode cL_law 602 = .ok (.aload_n 0, 1) := by decide +kernel
theorem dL_law_603 : decode cL_law 603 = .ok (.iload_n 3, 1) := by decide +kernel
theorem dL_law_604 : decode cL_law 604 = .ok (.iconst 2, 1) := by decide +kernel
theorem dL_law_605 : decode cL_law 605 = .ok (.iadd, 1) := by decide +kernel
theorem dL_law_606 : decode cL_law 606 = .ok (.iaload, 1) := by decide +kernel
theorem dL_law_607 : decode cL_law 607 = .ok (.invokevirtual 77, 3) := by decide +kernel
theorem dL_law_610 : decode cL_law 610 = .ok (.aload_n 2, 1) := by decide +kernel
theorem dL_law_611 : decode cL_law 611 = .ok (.aload_n 0, 1) := by decide +kernel
theorem dL_law_612 : decode cL_law 612 = .ok (.iload_n 3, 1) := by decide +kernel
theorem dL_law_613 : decode cL_law 613 = .ok (.iconst 1, 1) := by decide +kernel
theorem dL_law_614 : decode cL_law 614 = .ok (.iadd, 1) := by decide +kernel
theorem dL_law_615 : decode cL_law 615 = .ok (.iaload, 1) := by decide +kernel
theorem dL_law_616 : decode cL_law 616 = .ok (.aload_n 0, 1) := by decide +kernel
theorem dL_law_617 : decode cL_law 617 = .ok (.iload_n 3, 1) := by decide +kernel
theorem dL_law_618 : decode cL_law 618 = .ok (.iconst 2, 1) := by decide +kernel
theorem dL_law_619 : decode cL_law 619 = .ok (.iadd, 1) := by decide +kernel
theorem dL_law_620 : decode cL_law 620 = .ok (.iaload, 1) := by decide +kernel
theorem dL_law_621 : decode cL_law 621 = .ok (.invokevirtual 80, 3) := by decide +kernel
theorem dL_law_624 : decode cL_law 624 = .ok (.if_icmp .eq 493, 3) := by decide +kernel
theorem dL_law_629 : decode cL_law 629 = .ok (.aload_n 1, 1) := by decide +kernel
theorem dL_law_630 : decode cL_law 630 = .ok (.aload_n 0, 1) := by decide +kernel
theorem dL_law_631 : decode cL_law 631 = .ok (.iload_n 3, 1) := by decide +kernel
theorem dL_law_632 : decode cL_law 632 = .ok (.iconst 1, 1) := by decide +kernel
theorem dL_law_633 : decode cL_law 633 = .ok (.iadd, 1) := by decide +kernel
theorem dL_law_634 : decode cL_law 634 = .ok (.iaload, 1) := by decide +kernel
theorem dL_law_635 : decode cL_law 635 = .ok (.invokevirtual 81, 3) := by decide +kernel
theorem dL_law_638 : decode cL_law 638 = .ok (.aload_n 2, 1) := by decide +kernel
theorem dL_law_639 : decode cL_law 639 = .ok (.aload_n 0, 1) := by decide +kernel
theorem dL_law_640 : decode cL_law 640 = .ok (.iload_n 3, 1) := by decide +kernel
theorem dL_law_641 : decode cL_law 641 = .ok (.iconst 1, 1) := by decide +kernel
theorem dL_law_642 : decode cL_law 642 = .ok (.iadd, 1) := by decide +kernel
theorem dL_law_643 : decode cL_law 643 = .ok (.iaload, 1) := by decide +kernel
theorem dL_law_644 : decode cL_law 644 = .ok (.invokevirtual 84, 3) := by decide +kernel
theorem dL_law_647 : decode cL_law 647 = .ok (.if_icmp .eq 470, 3) := by decide +kernel
theorem dL_law_652 : decode cL_law 652 = .ok (.aload_n 1, 1) := by decide +kernel
theorem dL_law_653 : decode cL_law 653 = .ok (.aload_n 0, 1) := by decide +kernel
theorem dL_law_654 : decode cL_law 654 = .ok (.iload_n 3, 1) := by decide +kernel
theorem dL_law_655 : decode cL_law 655 = .ok (.iconst 1, 1) := by decide +kernel
theorem dL_law_656 : decode cL_law 656 = .ok (.iadd, 1) := by decide +kernel
theorem dL_law_657 : decode cL_law 657 = .ok (.iaload, 1) := by decide +kernel
theorem dL_law_658 : decode cL_law 658 = .ok (.aload_n 0, 1) := by decide +kernel
theorem dL_law_659 : decode cL_law 659 = .ok (.iload_n 3, 1) := by decide +kernel
theorem dL_law_660 : decode cL_law 660 = .ok (.iconst 2, 1) := by decide +kernel
theorem dL_law_661 : decode cL_law 661 = .ok (.iadd, 1) := by decide +kernel
theorem dL_law_662 : decode cL_law 662 = .ok (.iaload, 1) := by decide +kernel
theorem dL_law_663 : decode cL_law 663 = .ok (.invokevirtual 85, 3) := by decide +kernel
theorem dL_law_666 : decode cL_law 666 = .ok (.aload_n 2, 1) := by decide +kernel
theorem dL_law_667 : decode cL_law 667 = .ok (.aload_n 0, 1) := by decide +kernel
theorem dL_law_668 : decode cL_law 668 = .ok (.iload_n 3, 1) := by decide +kernel
theorem dL_law_669 : decode cL_law 669 = .ok (.iconst 1, 1) := by decide +kernel
theorem dL_law_670 : decode cL_law 670 = .ok (.iadd, 1) := by decide +kernel
theorem dL_law_671 : decode cL_law 671 = .ok (.iaload, 1) := by decide +kernel
theorem dL_law_672 : decode cL_law 672 = .ok (.aload_n 0, 1) := by decide +kernel
theorem dL_law_673 : decode cL_law 673 = .ok (.iload_n 3, 1) := by decide +kernel
theorem dL_law_674 : decode cL_law 674 = .ok (.iconst 2, 1) := by decide +kernel
theorem dL_law_675 : decode cL_law 675 = .ok (.iadd, 1) := by decide +kernel
theorem dL_law_676 : decode cL_law 676 = .ok (.iaload, 1) := by decide +kernel
theorem dL_law_677 : decode cL_law 677 = .ok (.invokevirtual 88, 3) := by decide +kernel
theorem dL_law_680 : decode cL_law 680 = .ok (.if_icmp .eq 437, 3) := by decide +kernel
theorem dL_law_685 : decode cL_law 685 = .ok (.aload_n 1, 1) := by decide +kernel
theorem dL_law_686 : decode cL_law 686 = .ok (.aload_n 0, 1) := by decide +kernel
theorem dL_law_687 : decode cL_law 687 = .ok (.iload_n 3, 1) := by decide +kernel
theorem dL_law_688 : decode cL_law 688 = .ok (.iconst 1, 1) := by decide +kernel
theorem dL_law_689 : decode cL_law 689 = .ok (.iadd, 1) := by decide +kernel
theorem dL_law_690 : decode cL_law 690 = .ok (.iaload, 1) := by decide +kernel
theorem dL_law_691 : decode cL_law 691 = .ok (.aload_n 0, 1) := by decide +kernel
theorem dL_law_692 : decode cL_law 692 = .ok (.iload_n 3, 1) := by decide +kernel
theorem dL_law_693 : decode cL_law 693 = .ok (.iconst 2, 1) := by decide +kernel
theorem dL_law_694 : decode cL_law 694 = .ok (.iadd, 1) := by decide +kernel
theorem dL_law_695 : decode cL_law 695 = .ok (.iaload, 1) := by decide +kernel
theorem dL_law_696 : decode cL_law 696 = .ok (.aload_n 0, 1) := by decide +kernel
theorem dL_law_697 : decode cL_law 697 = .ok (.iload_n 3, 1) := by decide +kernel
theorem dL_law_698 : decode cL_law 698 = .ok (.iconst 3, 1) := by decide +kernel
theorem dL_law_699 : decode cL_law 699 = .ok (.iadd, 1) := by decide +kernel
theorem dL_law_700 : decode cL_law 700 = .ok (.iaload, 1) := by decide +kernel
theorem dL_law_701 : decode cL_law 701 = .ok (.invokevirtual 89, 3) := by decide +kernel
theorem dL_law_704 : decode cL_law 704 = .ok (.aload_n 2, 1) := by decide +kernel
theorem dL_law_705 : decode cL_law 705 = .ok (.aload_n 0, 1) := by decide +kernel
theorem dL_law_706 : decode cL_law 706 = .ok (.iload_n 3, 1) := by decide +kernel
theorem dL_law_707 : decode cL_law 707 = .ok (.iconst 1, 1) := by decide +kernel
theorem dL_law_708 : decode cL_law 708 = .ok (.iadd, 1) := by decide +kernel
theorem dL_law_709 : decode cL_law 709 = .ok (.iaload, 1) := by decide +kernel
theorem dL_law_710 : decode cL_law 710 = .ok (.aload_n 0, 1) := by decide +kernel
theorem dL_law_711 : decode cL_law 711 = .ok (.iload_n 3, 1) := by decide +kernel
theorem dL_law_712 : decode cL_law 712 = .ok (.iconst 2, 1) := by decide +kernel
theorem dL_law_713 : decode cL_law 713 = .ok (.iadd, 1) := by decide +kernel
theorem dL_law_714 : decode cL_law 714 = .ok (.iaload, 1) := by decide +kernel
theorem dL_law_715 : decode cL_law 715 = .ok (.aload_n 0, 1) := by decide +kernel
theorem dL_law_716 : decode cL_law 716 = .ok (.iload_n 3, 1) := by decide +kernel
theorem dL_law_717 : decode cL_law 717 = .ok (.iconst 3, 1) := by decide +kernel
theorem dL_law_718 : decode cL_law 718 = .ok (.iadd, 1) := by decide +kernel
theorem dL_law_719 : decode cL_law 719 = .ok (.iaload, 1) := by decide +kernel
theorem dL_law_720 : decode cL_law 720 = .ok (.invokevirtual 93, 3) := by decide +kernel
theorem dL_law_723 : decode cL_law 723 = .ok (.if_icmp .eq 394, 3) := by decide +kernel
theorem dL_law_728 : decode cL_law 728 = .ok (.aload_n 1, 1) := by decide +kernel
theorem dL_law_729 : decode cL_law 729 = .ok (.aload_n 0, 1) := by decide +kernel
theorem dL_law_730 : decode cL_law 730 = .ok (.iload_n 3, 1) := by decide +kernel
theorem dL_law_731 : decode cL_law 731 = .ok (.iconst 1, 1) := by decide +kernel
theorem dL_law_732 : decode cL_law 732 = .ok (.iadd, 1) := by decide +kernel
theorem dL_law_733 : decode cL_law 733 = .ok (.iaload, 1) := by decide +kernel
theorem dL_law_734 : decode cL_law 734 = .ok (.invokevirtual 94, 3) := by decide +kernel
theorem dL_law_737 : decode cL_law 737 = .ok (.aload_n 2, 1) := by decide +kernel
theorem dL_law_738 : decode cL_law 738 = .ok (.aload_n 0, 1) := by decide +kernel
theorem dL_law_739 : decode cL_law 739 = .ok (.iload_n 3, 1) := by decide +kernel
theorem dL_law_740 : decode cL_law 740 = .ok (.iconst 1, 1) := by decide +kernel
theorem dL_law_741 : decode cL_law 741 = .ok (.iadd, 1) := by decide +kernel
theorem dL_law_742 : decode cL_law 742 = .ok (.iaload, 1) := by decide +kernel
theorem dL_law_743 : decode cL_law 743 = .ok (.invokevirtual 97, 3) := by decide +kernel
theorem dL_law_746 : decode cL_law 746 = .ok (.if_icmp .eq 371, 3) := by decide +kernel
theorem dL_law_751 : decode cL_law 751 = .ok (.aload_n 1, 1) := by decide +kernel
theorem dL_law_752 : decode cL_law 752 = .ok (.aload_n 0, 1) := by decide +kernel
theorem dL_law_753 : decode cL_law 753 = .ok (.iload_n 3, 1) := by decide +kernel
theorem dL_law_754 : decode cL_law 754 = .ok (.iconst 1, 1) := by decide +kernel
theorem dL_law_755 : decode cL_law 755 = .ok (.iadd, 1) := by decide +kernel
theorem dL_law_756 : decode cL_law 756 = .ok (.iaload, 1) := by decide +kernel
theorem dL_law_757 : decode cL_law 757 = .ok (.invokevirtual 98, 3) := by decide +kernel
theorem dL_law_760 : decode cL_law 760 = .ok (.aload_n 2, 1) := by decide +kernel
theorem dL_law_761 : decode cL_law 761 = .ok (.aload_n 0, 1) := by decide +kernel
theorem dL_law_762 : decode cL_law 762 = .ok (.iload_n 3, 1) := by decide +kernel
theorem dL_law_763 : decode cL_law 763 = .ok (.iconst 1, 1) := by decide +kernel
theorem dL_law_764 : decode cL_law 764 = .ok (.iadd, 1) := by decide +kernel
theorem dL_law_765 : decode cL_law 765 = .ok (.iaload, 1) := by decide +kernel
theorem dL_law_766 : decode cL_law 766 = .ok (.invokevirtual 101, 3) := by decide +kernel
theorem dL_law_769 : decode cL_law 769 = .ok (.if_icmp .eq 348, 3) := by decide +kernel
theorem dL_law_774 : decode cL_law 774 = .ok (.aload_n 1, 1) := by decide +kernel
theorem dL_law_775 : decode cL_law 775 = .ok (.aload_n 0, 1) := by decide +kernel
theorem dL_law_776 : decode cL_law 776 = .ok (.iload_n 3, 1) := by decide +kernel
theorem dL_law_777 : decode cL_law 777 = .ok (.iconst 1, 1) := by decide +kernel
theorem dL_law_778 : decode cL_law 778 = .ok (.iadd, 1) := by decide +kernel
theorem dL_law_779 : decode cL_law 779 = .ok (.iaload, 1) := by decide +kernel
theorem dL_law_780 : decode cL_law 780 = .ok (.invokevirtual 102, 3) := by decide +kernel
theorem dL_law_783 : decode cL_law 783 = .ok (.aload_n 2, 1) := by decide +kernel
theorem dL_law_784 : decode cL_law 784 = .ok (.aload_n 0, 1) := by decide +kernel
theorem dL_law_785 : decode cL_law 785 = .ok (.iload_n 3, 1) := by decide +kernel
theorem dL_law_786 : decode cL_law 786 = .ok (.iconst 1, 1) := by decide +kernel
theorem dL_law_787 : decode cL_law 787 = .ok (.iadd, 1) := by decide +kernel
theorem dL_law_788 : decode cL_law 788 = .ok (.iaload, 1) := by decide +kernel
theorem dL_law_789 : decode cL_law 789 = .ok (.invokevirtual 105, 3) := by decide +kernel
theorem dL_law_792 : decode cL_law 792 = .ok (.if_icmp .eq 325, 3) := by decide +kernel
theorem dL_law_797 : decode cL_law 797 = .ok (.aload_n 1, 1) := by decide +kernel
theorem dL_law_798 : decode cL_law 798 = .ok (.invokevirtual 106, 3) := by decide +kernel
theorem dL_law_801 : decode cL_law 801 = .ok (.aload_n 2, 1) := by decide +kernel
theorem dL_law_802 : decode cL_law 802 = .ok (.invokevirtual 109, 3) := by decide +kernel
theorem dL_law_805 : decode cL_law 805 = .ok (.if_icmp .eq 312, 3) := by decide +kernel
theorem dL_law_810 : decode cL_law 810 = .ok (.aload_n 1, 1) := by decide +kernel
theorem dL_law_811 : decode cL_law 811 = .ok (.aload_n 0, 1) := by decide +kernel
theorem dL_law_812 : decode cL_law 812 = .ok (.iload_n 3, 1) := by decide +kernel
theorem dL_law_813 : decode cL_law 813 = .ok (.iconst 1, 1) := by decide +kernel
theorem dL_law_814 : decode cL_law 814 = .ok (.iadd, 1) := by decide +kernel
theorem dL_law_815 : decode cL_law 815 = .ok (.iaload, 1) := by decide +kernel
theorem dL_law_816 : decode cL_law 816 = .ok (.invokevirtual 110, 3) := by decide +kernel
theorem dL_law_819 : decode cL_law 819 = .ok (.aload_n 2, 1) := by decide +kernel
theorem dL_law_820 : decode cL_law 820 = .ok (.aload_n 0, 1) := by decide +kernel
theorem dL_law_821 : decode cL_law 821 = .ok (.iload_n 3, 1) := by decide +kernel
theorem dL_law_822 : decode cL_law 822 = .ok (.iconst 1, 1) := by decide +kernel
theorem dL_law_823 : decode cL_law 823 = .ok (.iadd, 1) := by decide +kernel
theorem dL_law_824 : decode cL_law 824 = .ok (.iaload, 1) := by decide +kernel
theorem dL_law_825 : decode cL_law 825 = .ok (.invokevirtual 113, 3) := by decide +kernel
theorem dL_law_828 : decode cL_law 828 = .ok (.if_icmp .eq 289, 3) := by decide +kernel
theorem dL_law_833 : decode cL_law 833 = .ok (.aload_n 1, 1) := by decide +kernel
theorem dL_law_834 : decode cL_law 834 = .ok (.aload_n 0, 1) := by decide +kernel
theorem dL_law_835 : decode cL_law 835 = .ok (.iload_n 3, 1) := by decide +kernel
theorem dL_law_836 : decode cL_law 836 = .ok (.iconst 1, 1) := by decide +kernel
theorem dL_law_837 : decode cL_law 837 = .ok (.iadd, 1) := by decide +kernel
theorem dL_law_838 : decode cL_law 838 = .ok (.iaload, 1) := by decide +kernel
theorem dL_law_839 : decode cL_law 839 = .ok (.aload_n 0, 1) := by decide +kernel
theorem dL_law_840 : decode cL_law 840 = .ok (.iload_n 3, 1) := by decide +kernel
theorem dL_law_841 : decode cL_law 841 = .ok (.iconst 2, 1) := by decide +kernel
theorem dL_law_842 : decode cL_law 842 = .ok (.iadd, 1) := by decide +kernel
theorem dL_law_843 : decode cL_law 843 = .ok (.iaload, 1) := by decide +kernel
theorem dL_law_844 : decode cL_law 844 = .ok (.invokevirtual 114, 3) := by decide +kernel
theorem dL_law_847 : decode cL_law 847 = .ok (.aload_n 2, 1) := by decide +kernel
theorem dL_law_848 : decode cL_law 848 = .ok (.aload_n 0, 1) := by decide +kernel
theorem dL_law_849 : decode cL_law 849 = .ok (.iload_n 3, 1) := by decide +kernel
theorem dL_law_850 : decode cL_law 850 = .ok (.iconst 1, 1) := by decide +kernel
theorem dL_law_851 : decode cL_law 851 = .ok (.iadd, 1) := by decide +kernel
theorem dL_law_852 : decode cL_law 852 = .ok (.iaload, 1) := by decide +kernel
theorem dL_law_853 : decode cL_law 853 = .ok (.aload_n 0, 1) := by decide +kernel
theorem dL_law_854 : decode cL_law 854 = .ok (.iload_n 3, 1) := by decide +kernel
theorem dL_law_855 : decode cL_law 855 = .ok (.iconst 2, 1) := by decide +kernel
theorem dL_law_856 : decode cL_law 856 = .ok (.iadd, 1) := by decide +kernel
theorem dL_law_857 : decode cL_law 857 = .ok (.iaload, 1) := by decide +kernel
theorem dL_law_858 : decode cL_law 858 = .ok (.invokevirtual 117, 3) := by decide +kernel
theorem dL_law_861 : decode cL_law 861 = .ok (.if_icmp .eq 256, 3) := by decide +kernel
theorem dL_law_866 : decode cL_law 866 = .ok (.aload_n 1, 1) := by decide +kernel
theorem dL_law_867 : decode cL_law 867 = .ok (.aload_n 0, 1) := by decide +kernel
theorem dL_law_868 : decode cL_law 868 = .ok (.iload_n 3, 1) := by decide +kernel
theorem dL_law_869 : decode cL_law 869 = .ok (.iconst 1, 1) := by decide +kernel
theorem dL_law_870 : decode cL_law 870 = .ok (.iadd, 1) := by decide +kernel
theorem dL_law_871 : decode cL_law 871 = .ok (.iaload, 1) := by decide +kernel
theorem dL_law_872 : decode cL_law 872 = .ok (.aload_n 0, 1) := by decide +kernel
theorem dL_law_873 : decode cL_law 873 = .ok (.iload_n 3, 1) := by decide +kernel
theorem dL_law_874 : decode cL_law 874 = .ok (.iconst 2, 1) := by decide +kernel
theorem dL_law_875 : decode cL_law 875 = .ok (.iadd, 1) := by decide +kernel
theorem dL_law_876 : decode cL_law 876 = .ok (.iaload, 1) := by decide +kernel
theorem dL_law_877 : decode cL_law 877 = .ok (.invokevirtual 118, 3) := by decide +kernel
theorem dL_law_880 : decode cL_law 880 = .ok (.aload_n 2, 1) := by decide +kernel
theorem dL_law_881 : decode cL_law 881 = .ok (.aload_n 0, 1) := by decide +kernel
theorem dL_law_882 : decode cL_law 882 = .ok (.iload_n 3, 1) := by decide +kernel
theorem dL_law_883 : decode cL_law 883 = .ok (.iconst 1, 1) := by decide +kernel
theorem dL_law_884 : decode cL_law 884 = .ok (.iadd, 1) := by decide +kernel
theorem dL_law_885 : decode cL_law 885 = .ok (.iaload, 1) := by decide +kernel
theorem dL_law_886 : decode cL_law 886 = .ok (.aload_n 0, 1) := by decide +kernel
theorem dL_law_887 : decode cL_law 887 = .ok (.iload_n 3, 1) := by decide +kernel
theorem dL_law_888 : decode cL_law 888 = .ok (.iconst 2, 1) := by decide +kernel
theorem dL_law_889 : decode cL_law 889 = .ok (.iadd, 1) := by decide +kernel
theorem dL_law_890 : decode cL_law 890 = .ok (.iaload, 1) := by decide +kernel
theorem dL_law_891 : decode cL_law 891 = .ok (.invokevirtual 121, 3) := by decide +kernel
theorem dL_law_894 : decode cL_law 894 = .ok (.if_icmp .eq 223, 3) := by decide +kernel
theorem dL_law_899 : decode cL_law 899 = .ok (.aload_n 1, 1) := by decide +kernel
theorem dL_law_900 : decode cL_law 900 = .ok (.aload_n 0, 1) := by decide +kernel
theorem dL_law_901 : decode cL_law 901 = .ok (.iload_n 3, 1) := by decide +kernel
theorem dL_law_902 : decode cL_law 902 = .ok (.iconst 1, 1) := by decide +kernel
theorem dL_law_903 : decode cL_law 903 = .ok (.iadd, 1) := by decide +kernel
theorem dL_law_904 : decode cL_law 904 = .ok (.iaload, 1) := by decide +kernel
theorem dL_law_905 : decode cL_law 905 = .ok (.invokevirtual 122, 3) := by decide +kernel
theorem dL_law_908 : decode cL_law 908 = .ok (.aload_n 2, 1) := by decide +kernel
theorem dL_law_909 : decode cL_law 909 = .ok (.aload_n 0, 1) := by decide +kernel
theorem dL_law_910 : decode cL_law 910 = .ok (.iload_n 3, 1) := by decide +kernel
theorem dL_law_911 : decode cL_law 911 = .ok (.iconst 1, 1) := by decide +kernel
theorem dL_law_912 : decode cL_law 912 = .ok (.iadd, 1) := by decide +kernel
theorem dL_law_913 : decode cL_law 913 = .ok (.iaload, 1) := by decide +kernel
theorem dL_law_914 : decode cL_law 914 = .ok (.invokevirtual 125, 3) := by decide +kernel
theorem dL_law_917 : decode cL_law 917 = .ok (.if_icmp .eq 200, 3) := by decide +kernel
theorem dL_law_922 : decode cL_law 922 = .ok (.aload_n 1, 1) := by decide +kernel
theorem dL_law_923 : decode cL_law 923 = .ok (.aload_n 0, 1) := by decide +kernel
theorem dL_law_924 : decode cL_law 924 = .ok (.iload_n 3, 1) := by decide +kernel
theorem dL_law_925 : decode cL_law 925 = .ok (.iconst 1, 1) := by decide +kernel
theorem dL_law_926 : decode cL_law 926 = .ok (.iadd, 1) := by decide +kernel
theorem dL_law_927 : decode cL_law 927 = .ok (.iaload, 1) := by decide +kernel
theorem dL_law_928 : decode cL_law 928 = .ok (.invokevirtual 126, 3) := by decide +kernel
theorem dL_law_931 : decode cL_law 931 = .ok (.aload_n 2, 1) := by decide +kernel
theorem dL_law_932 : decode cL_law 932 = .ok (.aload_n 0, 1) := by decide +kernel
theorem dL_law_933 : decode cL_law 933 = .ok (.iload_n 3, 1) := by decide +kernel
theorem dL_law_934 : decode cL_law 934 = .ok (.iconst 1, 1) := by decide +kernel
theorem dL_law_935 : decode cL_law 935 = .ok (.iadd, 1) := by decide +kernel
theorem dL_law_936 : decode cL_law 936 = .ok (.iaload, 1) := by decide +kernel
theorem dL_law_937 : decode cL_law 937 = .ok (.invokevirtual 129, 3) := by decide +kernel
theorem dL_law_940 : decode cL_law 940 = .ok (.if_icmp .eq 177, 3) := by decide +kernel
theorem dL_law_945 : decode cL_law 945 = .ok (.aload_n 1, 1) := by decide +kernel
theorem dL_law_946 : decode cL_law 946 = .ok (.aload_n 0, 1) := by decide +kernel
theorem dL_law_947 : decode cL_law 947 = .ok (.iload_n 3, 1) := by decide +kernel
theorem dL_law_948 : decode cL_law 948 = .ok (.iconst 1, 1) := by decide +kernel
theorem dL_law_949 : decode cL_law 949 = .ok (.iadd, 1) := by decide +kernel
theorem dL_law_950 : decode cL_law 950 = .ok (.iaload, 1) := by decide +kernel
theorem dL_law_951 : decode cL_law 951 = .ok (.aload_n 0, 1) := by decide +kernel
theorem dL_law_952 : decode cL_law 952 = .ok (.iload_n 3, 1) := by decide +kernel
theorem dL_law_953 : decode cL_law 953 = .ok (.iconst 2, 1) := by decide +kernel
theorem dL_law_954 : decode cL_law 954 = .ok (.iadd, 1) := by decide +kernel
theorem dL_law_955 : decode cL_law 955 = .ok (.iaload, 1) := by decide +kernel
theorem dL_law_956 : decode cL_law 956 = .ok (.aload_n 0, 1) := by decide +kernel
theorem dL_law_957 : decode cL_law 957 = .ok (.iload_n 3, 1) := by decide +kernel
theorem dL_law_958 : decode cL_law 958 = .ok (.iconst 3, 1) := by decide +kernel
theorem dL_law_959 : decode cL_law 959 = .ok (.iadd, 1) := by decide +kernel
theorem dL_law_960 : decode cL_law 960 = .ok (.iaload, 1) := by decide +kernel
theorem dL_law_961 : decode cL_law 961 = .ok (.invokevirtual 130, 3) := by decide +kernel
theorem dL_law_964 : decode cL_law 964 = .ok (.aload_n 2, 1) := by decide +kernel
theorem dL_law_965 : decode cL_law 965 = .ok (.aload_n 0, 1) := by decide +kernel
theorem dL_law_966 : decode cL_law 966 = .ok (.iload_n 3, 1) := by decide +kernel
theorem dL_law_967 : decode cL_law 967 = .ok (.iconst 1, 1) := by decide +kernel
theorem dL_law_968 : decode cL_law 968 = .ok (.iadd, 1) := by decide +kernel
theorem dL_law_969 : decode cL_law 969 = .ok (.iaload, 1) := by decide +kernel
theorem dL_law_970 : decode cL_law 970 = .ok (.aload_n 0, 1) := by decide +kernel
theorem dL_law_971 : decode cL_law 971 = .ok (.iload_n 3, 1) := by decide +kernel
theorem dL_law_972 : decode cL_law 972 = .ok (.iconst 2, 1) := by decide +kernel
theorem dL_law_973 : decode cL_law 973 = .ok (.iadd, 1) := by decide +kernel
theorem dL_law_974 : decode cL_law 974 = .ok (.iaload, 1) := by decide +kernel
theorem dL_law_975 : decode cL_law 975 = .ok (.aload_n 0, 1) := by decide +kernel
theorem dL_law_976 : decode cL_law 976 = .ok (.iload_n 3, 1) := by decide +kernel
theorem dL_law_977 : decode cL_law 977 = .ok (.iconst 3, 1) := by decide +kernel
theorem dL_law_978 : decode cL_law 978 = .ok (.iadd, 1) := by decide +kernel
theorem dL_law_979 : decode cL_law 979 = .ok (.iaload, 1) := by decide +kernel
theorem dL_law_980 : decode cL_law 980 = .ok (.invokevirtual 133, 3) := by decide +kernel
theorem dL_law_983 : decode cL_law 983 = .ok (.if_icmp .eq 134, 3) := by decide +kernel
theorem dL_law_988 : decode cL_law 988 = .ok (.aload_n 1, 1) := by decide +kernel
theorem dL_law_989 : decode cL_law 989 = .ok (.aload_n 0, 1) := by decide +kernel
theorem dL_law_990 : decode cL_law 990 = .ok (.iload_n 3, 1) := by decide +kernel
theorem dL_law_991 : decode cL_law 991 = .ok (.iconst 1, 1) := by decide +kernel
theorem dL_law_992 : decode cL_law 992 = .ok (.iadd, 1) := by decide +kernel
theorem dL_law_993 : decode cL_law 993 = .ok (.iaload, 1) := by decide +kernel
theorem dL_law_994 : decode cL_law 994 = .ok (.aload_n 0, 1) := by decide +kernel
theorem dL_law_995 : decode cL_law 995 = .ok (.iload_n 3, 1) := by decide +kernel
theorem dL_law_996 : decode cL_law 996 = .ok (.iconst 2, 1) := by decide +kernel
theorem dL_law_997 : decode cL_law 997 = .ok (.iadd, 1) := by decide +kernel
theorem dL_law_998 : decode cL_law 998 = .ok (.iaload, 1) := by decide +kernel
theorem dL_law_999 : decode cL_law 999 = .ok (.aload_n 0, 1) := by decide +kernel
theorem dL_law_1000 : decode cL_law 1000 = .ok (.iload_n 3, 1) := by decide +kernel
theorem dL_law_1001 : decode cL_law 1001 = .ok (.iconst 3, 1) := by decide +kernel
theorem dL_law_1002 : decode cL_law 1002 = .ok (.iadd, 1) := by decide +kernel
theorem dL_law_1003 : decode cL_law 1003 = .ok (.iaload, 1) := by decide +kernel
theorem dL_law_1004 : decode cL_law 1004 = .ok (.invokevirtual 134, 3) := by decide +kernel
theorem dL_law_1007 : decode cL_law 1007 = .ok (.aload_n 2, 1) := by decide +kernel
theorem dL_law_1008 : decode cL_law 1008 = .ok (.aload_n 0, 1) := by decide +kernel
theorem dL_law_1009 : decode cL_law 1009 = .ok (.iload_n 3, 1) := by decide +kernel
theorem dL_law_1010 : decode cL_law 1010 = .ok (.iconst 1, 1) := by decide +kernel
theorem dL_law_1011 : decode cL_law 1011 = .ok (.iadd, 1) := by decide +kernel
theorem dL_law_1012 : decode cL_law 1012 = .ok (.iaload, 1) := by decide +kernel
theorem dL_law_1013 : decode cL_law 1013 = .ok (.aload_n 0, 1) := by decide +kernel
theorem dL_law_1014 : decode cL_law 1014 = .ok (.iload_n 3, 1) := by decide +kernel
theorem dL_law_1015 : decode cL_law 1015 = .ok (.iconst 2, 1) := by decide +kernel
theorem dL_law_1016 : decode cL_law 1016 = .ok (.iadd, 1) := by decide +kernel
theorem dL_law_1017 : decode cL_law 1017 = .ok (.iaload, 1) := by decide +kernel
theorem dL_law_1018 : decode cL_law 1018 = .ok (.aload_n 0, 1) := by decide +kernel
theorem dL_law_1019 : decode cL_law 1019 = .ok (.iload_n 3, 1) := by decide +kernel
theorem dL_law_1020 : decode cL_law 1020 = .ok (.iconst 3, 1) := by decide +kernel
theorem dL_law_1021 : decode cL_law 1021 = .ok (.iadd, 1) := by decide +kernel
theorem dL_law_1022 : decode cL_law 1022 = .ok (.iaload, 1) := by decide +kernel
theorem dL_law_1023 : decode cL_law 1023 = .ok (.invokevirtual 137, 3) := by decide +kernel
theorem dL_law_1026 : decode cL_law 1026 = .ok (.if_icmp .eq 91, 3) := by decide +kernel
theorem dL_law_1031 : decode cL_law 1031 = .ok (.aload_n 1, 1) := by decide +kernel
theorem dL_law_1032 : decode cL_law 1032 = .ok (.aload_n 0, 1) := by decide +kernel
theorem dL_law_1033 : decode cL_law 1033 = .ok (.iload_n 3, 1) := by decide +kernel
theorem dL_law_1034 : decode cL_law 1034 = .ok (.iconst 1, 1) := by decide +kernel
theorem dL_law_1035 : decode cL_law 1035 = .ok (.iadd, 1) := by decide +kernel
theorem dL_law_1036 : decode cL_law 1036 = .ok (.iaload, 1) := by decide +kernel
theorem dL_law_1037 : decode cL_law 1037 = .ok (.aload_n 0, 1) := by decide +kernel
theorem dL_law_1038 : decode cL_law 1038 = .ok (.iload_n 3, 1) := by decide +kernel
theorem dL_law_1039 : decode cL_law 1039 = .ok (.iconst 2, 1) := by decide +kernel
theorem dL_law_1040 : decode cL_law 1040 = .ok (.iadd, 1) := by decide +kernel
theorem dL_law_1041 : decode cL_law 1041 = .ok (.iaload, 1) := by decide +kernel
theorem dL_law_1042 : decode cL_law 1042 = .ok (.aload_n 0, 1) := by decide +kernel
theorem dL_law_1043 : decode cL_law 1043 = .ok (.iload_n 3, 1) := by decide +kernel
theorem dL_law_1044 : decode cL_law 1044 = .ok (.iconst 3, 1) := by decide +kernel
theorem dL_law_1045 : decode cL_law 1045 = .ok (.iadd, 1) := by decide +kernel
theorem dL_law_1046 : decode cL_law 1046 = .ok (.iaload, 1) := by decide +kernel
theorem dL_law_1047 : decode cL_law 1047 = .ok (.aload_n 0, 1) := by decide +kernel
theorem dL_law_1048 : decode cL_law 1048 = .ok (.iload_n 3, 1) := by decide +kernel
theorem dL_law_1049 : decode cL_law 1049 = .ok (.iconst 4, 1) := by decide +kernel
theorem dL_law_1050 : decode cL_law 1050 = .ok (.iadd, 1) := by decide +kernel
theorem dL_law_1051 : decode cL_law 1051 = .ok (.iaload, 1) := by decide +kernel
theorem dL_law_1052 : decode cL_law 1052 = .ok (.aload_n 0, 1) := by decide +kernel
theorem dL_law_1053 : decode cL_law 1053 = .ok (.iload_n 3, 1) := by decide +kernel
theorem dL_law_1054 : decode cL_law 1054 = .ok (.iconst 5, 1) := by decide +kernel
theorem dL_law_1055 : decode cL_law 1055 = .ok (.iadd, 1) := by decide +kernel
theorem dL_law_1056 : decode cL_law 1056 = .ok (.iaload, 1) := by decide +kernel
theorem dL_law_1057 : decode cL_law 1057 = .ok (.invokevirtual 138, 3) := by decide +kernel
theorem dL_law_1060 : decode cL_law 1060 = .ok (.aload_n 2, 1) := by decide +kernel
theorem dL_law_1061 : decode cL_law 1061 = .ok (.aload_n 0, 1) := by decide +kernel
theorem dL_law_1062 : decode cL_law 1062 = .ok (.iload_n 3, 1) := by decide +kernel
theorem dL_law_1063 : decode cL_law 1063 = .ok (.iconst 1, 1) := by decide +kernel
theorem dL_law_1064 : decode cL_law 1064 = .ok (.iadd, 1) := by decide +kernel
theorem dL_law_1065 : decode cL_law 1065 = .ok (.iaload, 1) := by decide +kernel
theorem dL_law_1066 : decode cL_law 1066 = .ok (.aload_n 0, 1) := by decide +kernel
theorem dL_law_1067 : decode cL_law 1067 = .ok (.iload_n 3, 1) := by decide +kernel
theorem dL_law_1068 : decode cL_law 1068 = .ok (.iconst 2, 1) := by decide +kernel
theorem dL_law_1069 : decode cL_law 1069 = .ok (.iadd, 1) := by decide +kernel
theorem dL_law_1070 : decode cL_law 1070 = .ok (.iaload, 1) := by decide +kernel
theorem dL_law_1071 : decode cL_law 1071 = .ok (.aload_n 0, 1) := by decide +kernel
theorem dL_law_1072 : decode cL_law 1072 = .ok (.iload_n 3, 1) := by decide +kernel
theorem dL_law_1073 : decode cL_law 1073 = .ok (.iconst 3, 1) := by decide +kernel
theorem dL_law_1074 : decode cL_law 1074 = .ok (.iadd, 1) := by decide +kernel
theorem dL_law_1075 : decode cL_law 1075 = .ok (.iaload, 1) := by decide +kernel
theorem dL_law_1076 : decode cL_law 1076 = .ok (.aload_n 0, 1) := by decide +kernel
theorem dL_law_1077 : decode cL_law 1077 = .ok (.iload_n 3, 1) := by decide +kernel
theorem dL_law_1078 : decode cL_law 1078 = .ok (.iconst 4, 1) := by decide +kernel
theorem dL_law_1079 : decode cL_law 1079 = .ok (.iadd, 1) := by decide +kernel
theorem dL_law_1080 : decode cL_law 1080 = .ok (.iaload, 1) := by decide +kernel
theorem dL_law_1081 : decode cL_law 1081 = .ok (.aload_n 0, 1) := by decide +kernel
theorem dL_law_1082 : decode cL_law 1082 = .ok (.iload_n 3, 1) := by decide +kernel
theorem dL_law_1083 : decode cL_law 1083 = .ok (.iconst 5, 1) := by decide +kernel
theorem dL_law_1084 : decode cL_law 1084 = .ok (.iadd, 1) := by decide +kernel
theorem dL_law_1085 : decode cL_law 1085 = .ok (.iaload, 1) := by decide +kernel
theorem dL_law_1086 : decode cL_law 1086 = .ok (.invokevirtual 142, 3) := by decide +kernel
theorem dL_law_1089 : decode cL_law 1089 = .ok (.if_icmp .eq 28, 3) := by decide +kernel
theorem dL_law_1094 : decode cL_law 1094 = .ok (.aload_n 1, 1) := by decide +kernel
theorem dL_law_1095 : decode cL_law 1095 = .ok (.aload_n 0, 1) := by decide +kernel
theorem dL_law_1096 : decode cL_law 1096 = .ok (.iload_n 3, 1) := by decide +kernel
theorem dL_law_1097 : decode cL_law 1097 = .ok (.iconst 1, 1) := by decide +kernel
theorem dL_law_1098 : decode cL_law 1098 = .ok (.iadd, 1) := by decide +kernel
theorem dL_law_1099 : decode cL_law 1099 = .ok (.iaload, 1) := by decide +kernel
theorem dL_law_1100 : decode cL_law 1100 = .ok (.invokevirtual 143, 3) := by decide +kernel
theorem dL_law_1103 : decode cL_law 1103 = .ok (.aload_n 2, 1) := by decide +kernel
theorem dL_law_1104 : decode cL_law 1104 = .ok (.aload_n 0, 1) := by decide +kernel
theorem dL_law_1105 : decode cL_law 1105 = .ok (.iload_n 3, 1) := by decide +kernel
theorem dL_law_1106 : decode cL_law 1106 = .ok (.iconst 1, 1) := by decide +kernel
theorem dL_law_1107 : decode cL_law 1107 = .ok (.iadd, 1) := by decide +kernel
theorem dL_law_1108 : decode cL_law 1108 = .ok (.iaload, 1) := by decide +kernel
theorem dL_law_1109 : decode cL_law 1109 = .ok (.invokevirtual 146, 3) := by decide +kernel
theorem dL_law_1112 : decode cL_law 1112 = .ok (.if_icmp .eq 5, 3) := by decide +kernel
theorem dL_law_1117 : decode cL_law 1117 = .ok (.iinc 3 6, 3) := by decide +kernel
theorem dL_law_1120 : decode cL_law 1120 = .ok (.goto (-1102), 3) := by decide +kernel
theorem dL_law_1123 : decode cL_law 1123 = .ok (.iconst 1, 1) := by decide +kernel
theorem dL_law_1124 : decode cL_law 1124 = .ok (.ireturn, 1) := by decide +kernel
