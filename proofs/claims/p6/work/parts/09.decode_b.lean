theorem dX10_init_0 : decode cX10_init 0 = .ok (.aload_n 0, 1) := by decide +kernel
theorem dX10_init_1 : decode cX10_init 1 = .ok (.invokespecial 1, 3) := by decide +kernel
theorem dX10_init_4 : decode cX10_init 4 = .ok (.aload_n 0, 1) := by decide +kernel
theorem dX10_init_5 : decode cX10_init 5 = .ok (.new 7, 3) := by decide +kernel
theorem dX10_init_8 : decode cX10_init 8 = .ok (.dup, 1) := by decide +kernel
theorem dX10_init_9 : decode cX10_init 9 = .ok (.invokespecial 9, 3) := by decide +kernel
theorem dX10_init_12 : decode cX10_init 12 = .ok (.putfield 10, 3) := by decide +kernel
theorem dX10_init_15 : decode cX10_init 15 = .ok (.aload_n 0, 1) := by decide +kernel
theorem dX10_init_16 : decode cX10_init 16 = .ok (.new 16, 3) := by decide +kernel
theorem dX10_init_19 : decode cX10_init 19 = .ok (.dup, 1) := by decide +kernel
theorem dX10_init_20 : decode cX10_init 20 = .ok (.invokespecial 18, 3) := by decide +kernel
theorem dX10_init_23 : decode cX10_init 23 = .ok (.putfield 19, 3) := by decide +kernel
theorem dX10_init_26 : decode cX10_init 26 = .ok (.aload_n 0, 1) := by decide +kernel
theorem dX10_init_27 : decode cX10_init 27 = .ok (.new 23, 3) := by decide +kernel
theorem dX10_init_30 : decode cX10_init 30 = .ok (.dup, 1) := by decide +kernel
theorem dX10_init_31 : decode cX10_init 31 = .ok (.invokespecial 25, 3) := by decide +kernel
theorem dX10_init_34 : decode cX10_init 34 = .ok (.putfield 26, 3) := by decide +kernel
theorem dX10_init_37 : decode cX10_init 37 = .ok (.aload_n 0, 1) := by decide +kernel
theorem dX10_init_38 : decode cX10_init 38 = .ok (.new 30, 3) := by decide +kernel
theorem dX10_init_41 : decode cX10_init 41 = .ok (.dup, 1) := by decide +kernel
theorem dX10_init_42 : decode cX10_init 42 = .ok (.aload_n 0, 1) := by decide +kernel
theorem dX10_init_43 : decode cX10_init 43 = .ok (.getfield 26, 3) := by decide +kernel
theorem dX10_init_46 : decode cX10_init 46 = .ok (.invokespecial 32, 3) := by decide +kernel
theorem dX10_init_49 : decode cX10_init 49 = .ok (.putfield 35, 3) := by decide +kernel
theorem dX10_init_52 : decode cX10_init 52 = .ok (.aload_n 0, 1) := by decide +kernel
theorem dX10_init_53 : decode cX10_init 53 = .ok (.new 39, 3) := by decide +kernel
theorem dX10_init_56 : decode cX10_init 56 = .ok (.dup, 1) := by decide +kernel
theorem dX10_init_57 : decode cX10_init 57 = .ok (.aload_n 0, 1) := by decide +kernel
theorem dX10_init_58 : decode cX10_init 58 = .ok (.getfield 26, 3) := by decide +kernel
theorem dX10_init_61 : decode cX10_init 61 = .ok (.invokespecial 41, 3) := by decide +kernel
theorem dX10_init_64 : decode cX10_init 64 = .ok (.putfield 42, 3) := by decide +kernel
theorem dX10_init_67 : decode cX10_init 67 = .ok (.aload_n 0, 1) := by decide +kernel
theorem dX10_init_68 : decode cX10_init 68 = .ok (.new 46, 3) := by decide +kernel
theorem dX10_init_71 : decode cX10_init 71 = .ok (.dup, 1) := by decide +kernel
theorem dX10_init_72 : decode cX10_init 72 = .ok (.invokespecial 48, 3) := by decide +kernel
theorem dX10_init_75 : decode cX10_init 75 = .ok (.putfield 49, 3) := by decide +kernel
theorem dX10_init_78 : decode cX10_init 78 = .ok (.aload_n 0, 1) := by decide +kernel
theorem dX10_init_79 : decode cX10_init 79 = .ok (.new 53, 3) := by decide +kernel
theorem dX10_init_82 : decode cX10_init 82 = .ok (.dup, 1) := by decide +kernel
theorem dX10_init_83 : decode cX10_init 83 = .ok (.invokespecial 55, 3) := by decide +kernel
theorem dX10_init_86 : decode cX10_init 86 = .ok (.putfield 56, 3) := by decide +kernel
theorem dX10_init_89 : decode cX10_init 89 = .ok (.aload_n 0, 1) := by decide +kernel
theorem dX10_init_90 : decode cX10_init 90 = .ok (.new 53, 3) := by decide +kernel
theorem dX10_init_93 : decode cX10_init 93 = .ok (.dup, 1) := by decide +kernel
theorem dX10_init_94 : decode cX10_init 94 = .ok (.invokespecial 55, 3) := by decide +kernel
theorem dX10_init_97 : decode cX10_init 97 = .ok (.putfield 60, 3) := by decide +kernel
theorem dX10_init_100 : decode cX10_init 100 = .ok (.aload_n 0, 1) := by decide +kernel
theorem dX10_init_101 : decode cX10_init 101 = .ok (.new 63, 3) := by decide +kernel
theorem dX10_init_104 : decode cX10_init 104 = .ok (.dup, 1) := by decide +kernel
theorem dX10_init_105 : decode cX10_init 105 = .ok (.aload_n 0, 1) := by decide +kernel
theorem dX10_init_106 : decode cX10_init 106 = .ok (.getfield 10, 3) := by decide +kernel
theorem dX10_init_109 : decode cX10_init 109 = .ok (.aload_n 0, 1) := by decide +kernel
theorem dX10_init_110 : decode cX10_init 110 = .ok (.getfield 60, 3) := by decide +kernel
theorem dX10_init_113 : decode cX10_init 113 = .ok (.invokespecial 65, 3) := by decide +kernel
theorem dX10_init_116 : decode cX10_init 116 = .ok (.putfield 68, 3) := by decide +kernel
theorem dX10_init_119 : decode cX10_init 119 = .ok (.aload_n 0, 1) := by decide +kernel
theorem dX10_init_120 : decode cX10_init 120 = .ok (.iconst 0, 1) := by decide +kernel
theorem dX10_init_121 : decode cX10_init 121 = .ok (.putfield 72, 3) := by decide +kernel
theorem dX10_init_124 : decode cX10_init 124 = .ok (.return_, 1) := by decide +kernel
theorem dX10_feed_0 : decode cX10_feed 0 = .ok (.aload_n 0, 1) := by decide +kernel
theorem dX10_feed_1 : decode cX10_feed 1 = .ok (.getfield 10, 3) := by decide +kernel
theorem dX10_feed_4 : decode cX10_feed 4 = .ok (.lload_n 1, 1) := by decide +kernel
theorem dX10_feed_5 : decode cX10_feed 5 = .ok (.invokevirtual 76, 3) := by decide +kernel
theorem dX10_feed_8 : decode cX10_feed 8 = .ok (.ifCond .eq 13, 3) := by decide +kernel
theorem dX10_feed_11 : decode cX10_feed 11 = .ok (.aload_n 0, 1) := by decide +kernel
theorem dX10_feed_12 : decode cX10_feed 12 = .ok (.getfield 10, 3) := by decide +kernel
theorem dX10_feed_15 : decode cX10_feed 15 = .ok (.getfield 80, 3) := by decide +kernel
theorem dX10_feed_18 : decode cX10_feed 18 = .ok (.goto 5, 3) := by decide +kernel
theorem dX10_feed_21 : decode cX10_feed 21 = .ok (.bipush (-3), 2) := by decide +kernel
theorem dX10_feed_23 : decode cX10_feed 23 = .ok (.ireturn, 1) := by decide +kernel
theorem dX10_end_0 : decode cX10_end 0 = .ok (.iload_n 1, 1) := by decide +kernel
theorem dX10_end_1 : decode cX10_end 1 = .ok (.ifCond .lt 14, 3) := by decide +kernel
theorem dX10_end_4 : decode cX10_end 4 = .ok (.iload_n 1, 1) := by decide +kernel
theorem dX10_end_5 : decode cX10_end 5 = .ok (.aload_n 0, 1) := by decide +kernel
theorem dX10_end_6 : decode cX10_end 6 = .ok (.getfield 10, 3) := by decide +kernel
theorem dX10_end_9 : decode cX10_end 9 = .ok (.getfield 80, 3) := by decide +kernel
theorem dX10_end_12 : decode cX10_end 12 = .ok (.if_icmp .le 5, 3) := by decide +kernel
theorem dX10_end_15 : decode cX10_end 15 = .ok (.iconst (-1), 1) := by decide +kernel
theorem dX10_end_16 : decode cX10_end 16 = .ok (.ireturn, 1) := by decide +kernel
theorem dX10_end_17 : decode cX10_end 17 = .ok (.aload_n 0, 1) := by decide +kernel
theorem dX10_end_18 : decode cX10_end 18 = .ok (.getfield 10, 3) := by decide +kernel
theorem dX10_end_21 : decode cX10_end 21 = .ok (.getfield 80, 3) := by decide +kernel
theorem dX10_end_24 : decode cX10_end 24 = .ok (.istore_n 2, 1) := by decide +kernel
theorem dX10_end_25 : decode cX10_end 25 = .ok (.aload_n 0, 1) := by decide +kernel
theorem dX10_end_26 : decode cX10_end 26 = .ok (.getfield 10, 3) := by decide +kernel
theorem dX10_end_29 : decode cX10_end 29 = .ok (.iload_n 1, 1) := by decide +kernel
theorem dX10_end_30 : decode cX10_end 30 = .ok (.putfield 80, 3) := by decide +kernel
theorem dX10_end_33 : decode cX10_end 33 = .ok (.iload_n 2, 1) := by decide +kernel
theorem dX10_end_34 : decode cX10_end 34 = .ok (.ireturn, 1) := by decide +kernel
theorem dX10_text_0 : decode cX10_text 0 = .ok (.aload_n 0, 1) := by decide +kernel
theorem dX10_text_1 : decode cX10_text 1 = .ok (.getfield 68, 3) := by decide +kernel
theorem dX10_text_4 : decode cX10_text 4 = .ok (.aload_n 0, 1) := by decide +kernel
theorem dX10_text_5 : decode cX10_text 5 = .ok (.getfield 60, 3) := by decide +kernel
theorem dX10_text_8 : decode cX10_text 8 = .ok (.invokevirtual 83, 3) := by decide +kernel
theorem dX10_text_11 : decode cX10_text 11 = .ok (.istore_n 1, 1) := by decide +kernel
theorem dX10_text_12 : decode cX10_text 12 = .ok (.aload_n 0, 1) := by decide +kernel
theorem dX10_text_13 : decode cX10_text 13 = .ok (.getfield 10, 3) := by decide +kernel
theorem dX10_text_16 : decode cX10_text 16 = .ok (.iconst 0, 1) := by decide +kernel
theorem dX10_text_17 : decode cX10_text 17 = .ok (.putfield 80, 3) := by decide +kernel
theorem dX10_text_20 : decode cX10_text 20 = .ok (.aload_n 0, 1) := by decide +kernel
theorem dX10_text_21 : decode cX10_text 21 = .ok (.aload_n 0, 1) := by decide +kernel
theorem dX10_text_22 : decode cX10_text 22 = .ok (.getfield 68, 3) := by decide +kernel
theorem dX10_text_25 : decode cX10_text 25 = .ok (.getfield 87, 3) := by decide +kernel
theorem dX10_text_28 : decode cX10_text 28 = .ok (.putfield 72, 3) := by decide +kernel
theorem dX10_text_31 : decode cX10_text 31 = .ok (.aload_n 0, 1) := by decide +kernel
theorem dX10_text_32 : decode cX10_text 32 = .ok (.getfield 68, 3) := by decide +kernel
theorem dX10_text_35 : decode cX10_text 35 = .ok (.getfield 87, 3) := by decide +kernel
theorem dX10_text_38 : decode cX10_text 38 = .ok (.ifCond .eq 14, 3) := by decide +kernel
theorem dX10_text_41 : decode cX10_text 41 = .ok (.bipush (-10), 2) := by decide +kernel
theorem dX10_text_43 : decode cX10_text 43 = .ok (.aload_n 0, 1) := by decide +kernel
theorem dX10_text_44 : decode cX10_text 44 = .ok (.getfield 68, 3) := by decide +kernel
theorem dX10_text_47 : decode cX10_text 47 = .ok (.getfield 90, 3) := by decide +kernel
theorem dX10_text_50 : decode cX10_text 50 = .ok (.isub, 1) := by decide +kernel
theorem dX10_text_51 : decode cX10_text 51 = .ok (.ireturn, 1) := by decide +kernel
theorem dX10_text_52 : decode cX10_text 52 = .ok (.aload_n 0, 1) := by decide +kernel
theorem dX10_text_53 : decode cX10_text 53 = .ok (.getfield 56, 3) := by decide +kernel
theorem dX10_text_56 : decode cX10_text 56 = .ok (.astore_n 2, 1) := by decide +kernel
theorem dX10_text_57 : decode cX10_text 57 = .ok (.aload_n 0, 1) := by decide +kernel
theorem dX10_text_58 : decode cX10_text 58 = .ok (.aload_n 0, 1) := by decide +kernel
theorem dX10_text_59 : decode cX10_text 59 = .ok (.getfield 60, 3) := by decide +kernel
theorem dX10_text_62 : decode cX10_text 62 = .ok (.putfield 56, 3) := by decide +kernel
theorem dX10_text_65 : decode cX10_text 65 = .ok (.aload_n 0, 1) := by decide +kernel
theorem dX10_text_66 : decode cX10_text 66 = .ok (.aload_n 2, 1) := by decide +kernel
theorem dX10_text_67 : decode cX10_text 67 = .ok (.putfield 60, 3) := by decide +kernel
theorem dX10_text_70 : decode cX10_text 70 = .ok (.aload_n 0, 1) := by decide +kernel
theorem dX10_text_71 : decode cX10_text 71 = .ok (.getfield 19, 3) := by decide +kernel
theorem dX10_text_74 : decode cX10_text 74 = .ok (.aload_n 0, 1) := by decide +kernel
theorem dX10_text_75 : decode cX10_text 75 = .ok (.getfield 56, 3) := by decide +kernel
theorem dX10_text_78 : decode cX10_text 78 = .ok (.invokevirtual 93, 3) := by decide +kernel
theorem dX10_text_81 : decode cX10_text 81 = .ok (.aload_n 0, 1) := by decide +kernel
theorem dX10_text_82 : decode cX10_text 82 = .ok (.invokevirtual 97, 3) := by decide +kernel
theorem dX10_text_85 : decode cX10_text 85 = .ok (.iload_n 1, 1) := by decide +kernel
theorem dX10_text_86 : decode cX10_text 86 = .ok (.ireturn, 1) := by decide +kernel
theorem dX10_fault_0 : decode cX10_fault 0 = .ok (.aload_n 0, 1) := by decide +kernel
theorem dX10_fault_1 : decode cX10_fault 1 = .ok (.getfield 72, 3) := by decide +kernel
theorem dX10_fault_4 : decode cX10_fault 4 = .ok (.ireturn, 1) := by decide +kernel
theorem dX10_rail_0 : decode cX10_rail 0 = .ok (.aload_n 0, 1) := by decide +kernel
theorem dX10_rail_1 : decode cX10_rail 1 = .ok (.getfield 56, 3) := by decide +kernel
theorem dX10_rail_4 : decode cX10_rail 4 = .ok (.iload_n 1, 1) := by decide +kernel
theorem dX10_rail_5 : decode cX10_rail 5 = .ok (.invokevirtual 100, 3) := by decide +kernel
theorem dX10_rail_8 : decode cX10_rail 8 = .ok (.ifCond .eq 13, 3) := by decide +kernel
theorem dX10_rail_11 : decode cX10_rail 11 = .ok (.iload_n 2, 1) := by decide +kernel
theorem dX10_rail_12 : decode cX10_rail 12 = .ok (.ifCond .lt 9, 3) := by decide +kernel
theorem dX10_rail_15 : decode cX10_rail 15 = .ok (.iload_n 2, 1) := by decide +kernel
theorem dX10_rail_16 : decode cX10_rail 16 = .ok (.bipush 7, 2) := by decide +kernel
theorem dX10_rail_18 : decode cX10_rail 18 = .ok (.if_icmp .le 5, 3) := by decide +kernel
theorem dX10_rail_21 : decode cX10_rail 21 = .ok (.iconst (-1), 1) := by decide +kernel
theorem dX10_rail_22 : decode cX10_rail 22 = .ok (.ireturn, 1) := by decide +kernel
theorem dX10_rail_23 : decode cX10_rail 23 = .ok (.aload_n 0, 1) := by decide +kernel
theorem dX10_rail_24 : decode cX10_rail 24 = .ok (.getfield 56, 3) := by decide +kernel
theorem dX10_rail_27 : decode cX10_rail 27 = .ok (.iload_n 1, 1) := by decide +kernel
theorem dX10_rail_28 : decode cX10_rail 28 = .ok (.iload_n 2, 1) := by decide +kernel
theorem dX10_rail_29 : decode cX10_rail 29 = .ok (.invokevirtual 104, 3) := by decide +kernel
theorem dX10_rail_32 : decode cX10_rail 32 = .ok (.ireturn, 1) := by decide +kernel
theorem dX10_rule_0 : decode cX10_rule 0 = .ok (.iload_n 1, 1) := by decide +kernel
theorem dX10_rule_1 : decode cX10_rule 1 = .ok (.tableswitch 63 0 3 #[31, 39, 47, 55], 31) := by decide +kernel
theorem dX10_rule_32 : decode cX10_rule 32 = .ok (.aload_n 0, 1) := by decide +kernel
theorem dX10_rule_33 : decode cX10_rule 33 = .ok (.getfield 56, 3) := by decide +kernel
theorem dX10_rule_36 : decode cX10_rule 36 = .ok (.getfield 108, 3) := by decide +kernel
theorem dX10_rule_39 : decode cX10_rule 39 = .ok (.ireturn, 1) := by decide +kernel
theorem dX10_rule_40 : decode cX10_rule 40 = .ok (.aload_n 0, 1) := by decide +kernel
theorem dX10_rule_41 : decode cX10_rule 41 = .ok (.getfield 56, 3) := by decide +kernel
theorem dX10_rule_44 : decode cX10_rule 44 = .ok (.getfield 111, 3) := by decide +kernel
theorem dX10_rule_47 : decode cX10_rule 47 = .ok (.ireturn, 1) := by decide +kernel
theorem dX10_rule_48 : decode cX10_rule 48 = .ok (.aload_n 0, 1) := by decide +kernel
theorem dX10_rule_49 : decode cX10_rule 49 = .ok (.getfield 56, 3) := by decide +kernel
theorem dX10_rule_52 : decode cX10_rule 52 = .ok (.getfield 114, 3) := by decide +kernel
theorem dX10_rule_55 : decode cX10_rule 55 = .ok (.ireturn, 1) := by decide +kernel
theorem dX10_rule_56 : decode cX10_rule 56 = .ok (.aload_n 0, 1) := by decide +kernel
theorem dX10_rule_57 : decode cX10_rule 57 = .ok (.getfield 56, 3) := by decide +kernel
theorem dX10_rule_60 : decode cX10_rule 60 = .ok (.getfield 117, 3) := by decide +kernel
theorem dX10_rule_63 : decode cX10_rule 63 = .ok (.ireturn, 1) := by decide +kernel
theorem dX10_rule_64 : decode cX10_rule 64 = .ok (.iconst (-1), 1) := by decide +kernel
theorem dX10_rule_65 : decode cX10_rule 65 = .ok (.ireturn, 1) := by decide +kernel
theorem dX10_holds_0 : decode cX10_holds 0 = .ok (.aload_n 0, 1) := by decide +kernel
theorem dX10_holds_1 : decode cX10_holds 1 = .ok (.getfield 56, 3) := by decide +kernel
theorem dX10_holds_4 : decode cX10_holds 4 = .ok (.iload_n 1, 1) := by decide +kernel
theorem dX10_holds_5 : decode cX10_holds 5 = .ok (.invokevirtual 100, 3) := by decide +kernel
theorem dX10_holds_8 : decode cX10_holds 8 = .ok (.ifCond .eq 21, 3) := by decide +kernel
theorem dX10_holds_11 : decode cX10_holds 11 = .ok (.iload_n 2, 1) := by decide +kernel
theorem dX10_holds_12 : decode cX10_holds 12 = .ok (.aload_n 0, 1) := by decide +kernel
theorem dX10_holds_13 : decode cX10_holds 13 = .ok (.getfield 56, 3) := by decide +kernel
theorem dX10_holds_16 : decode cX10_holds 16 = .ok (.invokevirtual 120, 3) := by decide +kernel
theorem dX10_holds_19 : decode cX10_holds 19 = .ok (.sipush 256, 3) := by decide +kernel
theorem dX10_holds_22 : decode cX10_holds 22 = .ok (.ior, 1) := by decide +kernel
theorem dX10_holds_23 : decode cX10_holds 23 = .ok (.iconst (-1), 1) := by decide +kernel
theorem dX10_holds_24 : decode cX10_holds 24 = .ok (.ixor, 1) := by decide +kernel
theorem dX10_holds_25 : decode cX10_holds 25 = .ok (.iand, 1) := by decide +kernel
theorem dX10_holds_26 : decode cX10_holds 26 = .ok (.ifCond .eq 5, 3) := by decide +kernel
theorem dX10_holds_29 : decode cX10_holds 29 = .ok (.iconst (-1), 1) := by decide +kernel
theorem dX10_holds_30 : decode cX10_holds 30 = .ok (.ireturn, 1) := by decide +kernel
theorem dX10_holds_31 : decode cX10_holds 31 = .ok (.aload_n 0, 1) := by decide +kernel
theorem dX10_holds_32 : decode cX10_holds 32 = .ok (.getfield 56, 3) := by decide +kernel
theorem dX10_holds_35 : decode cX10_holds 35 = .ok (.iload_n 1, 1) := by decide +kernel
theorem dX10_holds_36 : decode cX10_holds 36 = .ok (.iload_n 2, 1) := by decide +kernel
theorem dX10_holds_37 : decode cX10_holds 37 = .ok (.invokevirtual 124, 3) := by decide +kernel
theorem dX10_holds_40 : decode cX10_holds 40 = .ok (.invokestatic 128, 3) := by decide +kernel
theorem dX10_holds_43 : decode cX10_holds 43 = .ok (.ireturn, 1) := by decide +kernel
theorem dX10_words_0 : decode cX10_words 0 = .ok (.aload_n 0, 1) := by decide +kernel
theorem dX10_words_1 : decode cX10_words 1 = .ok (.getfield 56, 3) := by decide +kernel
theorem dX10_words_4 : decode cX10_words 4 = .ok (.iload_n 1, 1) := by decide +kernel
theorem dX10_words_5 : decode cX10_words 5 = .ok (.invokevirtual 100, 3) := by decide +kernel
theorem dX10_words_8 : decode cX10_words 8 = .ok (.ifCond .eq 13, 3) := by decide +kernel
theorem dX10_words_11 : decode cX10_words 11 = .ok (.iload_n 2, 1) := by decide +kernel
theorem dX10_words_12 : decode cX10_words 12 = .ok (.ifCond .eq 11, 3) := by decide +kernel
theorem dX10_words_15 : decode cX10_words 15 = .ok (.iload_n 2, 1) := by decide +kernel
theorem dX10_words_16 : decode cX10_words 16 = .ok (.bipush 10, 2) := by decide +kernel
theorem dX10_words_18 : decode cX10_words 18 = .ok (.if_icmp .ge 5, 3) := by decide +kernel
theorem dX10_words_21 : decode cX10_words 21 = .ok (.iconst (-1), 1) := by decide +kernel
theorem dX10_words_22 : decode cX10_words 22 = .ok (.ireturn, 1) := by decide +kernel
theorem dX10_words_23 : decode cX10_words 23 = .ok (.iload_n 2, 1) := by decide +kernel
theorem dX10_words_24 : decode cX10_words 24 = .ok (.ifCond .ne 12, 3) := by decide +kernel
theorem dX10_words_27 : decode cX10_words 27 = .ok (.aload_n 0, 1) := by decide +kernel
theorem dX10_words_28 : decode cX10_words 28 = .ok (.getfield 56, 3) := by decide +kernel
theorem dX10_words_31 : decode cX10_words 31 = .ok (.iload_n 1, 1) := by decide +kernel
theorem dX10_words_32 : decode cX10_words 32 = .ok (.invokevirtual 132, 3) := by decide +kernel
theorem dX10_words_35 : decode cX10_words 35 = .ok (.ireturn, 1) := by decide +kernel
theorem dX10_words_36 : decode cX10_words 36 = .ok (.aload_n 0, 1) := by decide +kernel
theorem dX10_words_37 : decode cX10_words 37 = .ok (.getfield 56, 3) := by decide +kernel
theorem dX10_words_40 : decode cX10_words 40 = .ok (.iload_n 1, 1) := by decide +kernel
theorem dX10_words_41 : decode cX10_words 41 = .ok (.iload_n 2, 1) := by decide +kernel
theorem dX10_words_42 : decode cX10_words 42 = .ok (.bipush 10, 2) := by decide +kernel
theorem dX10_words_44 : decode cX10_words 44 = .ok (.isub, 1) := by decide +kernel
theorem dX10_words_45 : decode cX10_words 45 = .ok (.invokevirtual 136, 3) := by decide +kernel
theorem dX10_words_48 : decode cX10_words 48 = .ok (.ireturn, 1) := by decide +kernel
theorem dX10_key_0 : decode cX10_key 0 = .ok (.aload_n 0, 1) := by decide +kernel
theorem dX10_key_1 : decode cX10_key 1 = .ok (.getfield 19, 3) := by decide +kernel
theorem dX10_key_4 : decode cX10_key 4 = .ok (.getfield 139, 3) := by decide +kernel
theorem dX10_key_7 : decode cX10_key 7 = .ok (.invokestatic 128, 3) := by decide +kernel
theorem dX10_key_10 : decode cX10_key 10 = .ok (.istore_n 2, 1) := by decide +kernel
theorem dX10_key_11 : decode cX10_key 11 = .ok (.aload_n 0, 1) := by decide +kernel
theorem dX10_key_12 : decode cX10_key 12 = .ok (.getfield 19, 3) := by decide +kernel
theorem dX10_key_15 : decode cX10_key 15 = .ok (.aload_n 0, 1) := by decide +kernel
theorem dX10_key_16 : decode cX10_key 16 = .ok (.getfield 56, 3) := by decide +kernel
theorem dX10_key_19 : decode cX10_key 19 = .ok (.iload_n 1, 1) := by decide +kernel
theorem dX10_key_20 : decode cX10_key 20 = .ok (.invokevirtual 143, 3) := by decide +kernel
theorem dX10_key_23 : decode cX10_key 23 = .ok (.iload_n 2, 1) := by decide +kernel
theorem dX10_key_24 : decode cX10_key 24 = .ok (.ireturn, 1) := by decide +kernel
theorem dX10_dead_0 : decode cX10_dead 0 = .ok (.aload_n 0, 1) := by decide +kernel
theorem dX10_dead_1 : decode cX10_dead 1 = .ok (.getfield 56, 3) := by decide +kernel
theorem dX10_dead_4 : decode cX10_dead 4 = .ok (.iload_n 1, 1) := by decide +kernel
theorem dX10_dead_5 : decode cX10_dead 5 = .ok (.invokevirtual 100, 3) := by decide +kernel
theorem dX10_dead_8 : decode cX10_dead 8 = .ok (.ifCond .ne 5, 3) := by decide +kernel
theorem dX10_dead_11 : decode cX10_dead 11 = .ok (.iconst (-1), 1) := by decide +kernel
theorem dX10_dead_12 : decode cX10_dead 12 = .ok (.ireturn, 1) := by decide +kernel
theorem dX10_dead_13 : decode cX10_dead 13 = .ok (.iconst 1, 1) := by decide +kernel
theorem dX10_dead_14 : decode cX10_dead 14 = .ok (.iload_n 1, 1) := by decide +kernel
theorem dX10_dead_15 : decode cX10_dead 15 = .ok (.ishl, 1) := by decide +kernel
theorem dX10_dead_16 : decode cX10_dead 16 = .ok (.istore_n 3, 1) := by decide +kernel
theorem dX10_dead_17 : decode cX10_dead 17 = .ok (.aload_n 0, 1) := by decide +kernel
theorem dX10_dead_18 : decode cX10_dead 18 = .ok (.getfield 19, 3) := by decide +kernel
theorem dX10_dead_21 : decode cX10_dead 21 = .ok (.getfield 147, 3) := by decide +kernel
theorem dX10_dead_24 : decode cX10_dead 24 = .ok (.iload_n 3, 1) := by decide +kernel
theorem dX10_dead_25 : decode cX10_dead 25 = .ok (.iand, 1) := by decide +kernel
theorem dX10_dead_26 : decode cX10_dead 26 = .ok (.ifCond .eq 7, 3) := by decide +kernel
theorem dX10_dead_29 : decode cX10_dead 29 = .ok (.iconst 1, 1) := by decide +kernel
theorem dX10_dead_30 : decode cX10_dead 30 = .ok (.goto 4, 3) := by decide +kernel
theorem dX10_dead_33 : decode cX10_dead 33 = .ok (.iconst 0, 1) := by decide +kernel
theorem dX10_dead_34 : decode cX10_dead 34 = .ok (.invokestatic 128, 3) := by decide +kernel
theorem dX10_dead_37 : decode cX10_dead 37 = .ok (.istore 4, 2) := by decide +kernel
theorem dX10_dead_39 : decode cX10_dead 39 = .ok (.aload_n 0, 1) := by decide +kernel
theorem dX10_dead_40 : decode cX10_dead 40 = .ok (.getfield 19, 3) := by decide +kernel
theorem dX10_dead_43 : decode cX10_dead 43 = .ok (.iload_n 2, 1) := by decide +kernel
theorem dX10_dead_44 : decode cX10_dead 44 = .ok (.ifCond .eq 15, 3) := by decide +kernel
theorem dX10_dead_47 : decode cX10_dead 47 = .ok (.aload_n 0, 1) := by decide +kernel
theorem dX10_dead_48 : decode cX10_dead 48 = .ok (.getfield 19, 3) := by decide +kernel
theorem dX10_dead_51 : decode cX10_dead 51 = .ok (.getfield 147, 3) := by decide +kernel
theorem dX10_dead_54 : decode cX10_dead 54 = .ok (.iload_n 3, 1) := by decide +kernel
theorem dX10_dead_55 : decode cX10_dead 55 = .ok (.ior, 1) := by decide +kernel
theorem dX10_dead_56 : decode cX10_dead 56 = .ok (.goto 14, 3) := by decide +kernel
theorem dX10_dead_59 : decode cX10_dead 59 = .ok (.aload_n 0, 1) := by decide +kernel
theorem dX10_dead_60 : decode cX10_dead 60 = .ok (.getfield 19, 3) := by decide +kernel
theorem dX10_dead_63 : decode cX10_dead 63 = .ok (.getfield 147, 3) := by decide +kernel
theorem dX10_dead_66 : decode cX10_dead 66 = .ok (.iload_n 3, 1) := by decide +kernel
theorem dX10_dead_67 : decode cX10_dead 67 = .ok (.iconst (-1), 1) := by decide +kernel
theorem dX10_dead_68 : decode cX10_dead 68 = .ok (.ixor, 1) := by decide +kernel
theorem dX10_dead_69 : decode cX10_dead 69 = .ok (.iand, 1) := by decide +kernel
theorem dX10_dead_70 : decode cX10_dead 70 = .ok (.putfield 147, 3) := by decide +kernel
theorem dX10_dead_73 : decode cX10_dead 73 = .ok (.aload_n 0, 1) := by decide +kernel
theorem dX10_dead_74 : decode cX10_dead 74 = .ok (.invokevirtual 97, 3) := by decide +kernel
theorem dX10_dead_77 : decode cX10_dead 77 = .ok (.iload 4, 2) := by decide +kernel
theorem dX10_dead_79 : decode cX10_dead 79 = .ok (.ireturn, 1) := by decide +kernel
theorem dX10_time_0 : decode cX10_time 0 = .ok (.aload_n 0, 1) := by decide +kernel
theorem dX10_time_1 : decode cX10_time 1 = .ok (.getfield 56, 3) := by decide +kernel
theorem dX10_time_4 : decode cX10_time 4 = .ok (.iload_n 1, 1) := by decide +kernel
theorem dX10_time_5 : decode cX10_time 5 = .ok (.invokevirtual 100, 3) := by decide +kernel
theorem dX10_time_8 : decode cX10_time 8 = .ok (.ifCond .eq 29, 3) := by decide +kernel
theorem dX10_time_11 : decode cX10_time 11 = .ok (.iload_n 2, 1) := by decide +kernel
theorem dX10_time_12 : decode cX10_time 12 = .ok (.aload_n 0, 1) := by decide +kernel
theorem dX10_time_13 : decode cX10_time 13 = .ok (.getfield 56, 3) := by decide +kernel
theorem dX10_time_16 : decode cX10_time 16 = .ok (.iload_n 1, 1) := by decide +kernel
theorem dX10_time_17 : decode cX10_time 17 = .ok (.iconst 0, 1) := by decide +kernel
theorem dX10_time_18 : decode cX10_time 18 = .ok (.invokevirtual 104, 3) := by decide +kernel
theorem dX10_time_21 : decode cX10_time 21 = .ok (.if_icmp .lt 16, 3) := by decide +kernel
theorem dX10_time_24 : decode cX10_time 24 = .ok (.iload_n 2, 1) := by decide +kernel
theorem dX10_time_25 : decode cX10_time 25 = .ok (.aload_n 0, 1) := by decide +kernel
theorem dX10_time_26 : decode cX10_time 26 = .ok (.getfield 56, 3) := by decide +kernel
theorem dX10_time_29 : decode cX10_time 29 = .ok (.iload_n 1, 1) := by decide +kernel
theorem dX10_time_30 : decode cX10_time 30 = .ok (.iconst 1, 1) := by decide +kernel
theorem dX10_time_31 : decode cX10_time 31 = .ok (.invokevirtual 104, 3) := by decide +kernel
theorem dX10_time_34 : decode cX10_time 34 = .ok (.if_icmp .le 5, 3) := by decide +kernel
theorem dX10_time_37 : decode cX10_time 37 = .ok (.iconst (-1), 1) := by decide +kernel
theorem dX10_time_38 : decode cX10_time 38 = .ok (.ireturn, 1) := by decide +kernel
theorem dX10_time_39 : decode cX10_time 39 = .ok (.aload_n 0, 1) := by decide +kernel
theorem dX10_time_40 : decode cX10_time 40 = .ok (.getfield 19, 3) := by decide +kernel
theorem dX10_time_43 : decode cX10_time 43 = .ok (.getfield 150, 3) := by decide +kernel
theorem dX10_time_46 : decode cX10_time 46 = .ok (.iload_n 1, 1) := by decide +kernel
theorem dX10_time_47 : decode cX10_time 47 = .ok (.iaload, 1) := by decide +kernel
theorem dX10_time_48 : decode cX10_time 48 = .ok (.istore_n 3, 1) := by decide +kernel
theorem dX10_time_49 : decode cX10_time 49 = .ok (.aload_n 0, 1) := by decide +kernel
theorem dX10_time_50 : decode cX10_time 50 = .ok (.getfield 19, 3) := by decide +kernel
theorem dX10_time_53 : decode cX10_time 53 = .ok (.getfield 150, 3) := by decide +kernel
theorem dX10_time_56 : decode cX10_time 56 = .ok (.iload_n 1, 1) := by decide +kernel
theorem dX10_time_57 : decode cX10_time 57 = .ok (.iload_n 2, 1) := by decide +kernel
theorem dX10_time_58 : decode cX10_time 58 = .ok (.iastore, 1) := by decide +kernel
theorem dX10_time_59 : decode cX10_time 59 = .ok (.aload_n 0, 1) := by decide +kernel
theorem dX10_time_60 : decode cX10_time 60 = .ok (.invokevirtual 97, 3) := by decide +kernel
theorem dX10_time_63 : decode cX10_time 63 = .ok (.iload_n 3, 1) := by decide +kernel
theorem dX10_time_64 : decode cX10_time 64 = .ok (.ireturn, 1) := by decide +kernel
theorem dX10_go_0 : decode cX10_go 0 = .ok (.iload_n 1, 1) := by decide +kernel
theorem dX10_go_1 : decode cX10_go 1 = .ok (.iconst 1, 1) := by decide +kernel
theorem dX10_go_2 : decode cX10_go 2 = .ok (.if_icmp .lt 10, 3) := by decide +kernel
theorem dX10_go_5 : decode cX10_go 5 = .ok (.iload_n 1, 1) := by decide +kernel
theorem dX10_go_6 : decode cX10_go 6 = .ok (.sipush 999, 3) := by decide +kernel
theorem dX10_go_9 : decode cX10_go 9 = .ok (.if_icmp .le 5, 3) := by decide +kernel
theorem dX10_go_12 : decode cX10_go 12 = .ok (.iconst (-1), 1) := by decide +kernel
theorem dX10_go_13 : decode cX10_go 13 = .ok (.ireturn, 1) := by decide +kernel
theorem dX10_go_14 : decode cX10_go 14 = .ok (.aload_n 0, 1) := by decide +kernel
theorem dX10_go_15 : decode cX10_go 15 = .ok (.getfield 19, 3) := by decide +kernel
theorem dX10_go_18 : decode cX10_go 18 = .ok (.getfield 154, 3) := by decide +kernel
theorem dX10_go_21 : decode cX10_go 21 = .ok (.istore_n 2, 1) := by decide +kernel
theorem dX10_go_22 : decode cX10_go 22 = .ok (.iconst 0, 1) := by decide +kernel
theorem dX10_go_23 : decode cX10_go 23 = .ok (.istore_n 3, 1) := by decide +kernel
theorem dX10_go_24 : decode cX10_go 24 = .ok (.iload_n 3, 1) := by decide +kernel
theorem dX10_go_25 : decode cX10_go 25 = .ok (.iload_n 1, 1) := by decide +kernel
theorem dX10_go_26 : decode cX10_go 26 = .ok (.if_icmp .ge 20, 3) := by decide +kernel
theorem dX10_go_29 : decode cX10_go 29 = .ok (.aload_n 0, 1) := by decide +kernel
theorem dX10_go_30 : decode cX10_go 30 = .ok (.getfield 19, 3) := by decide +kernel
theorem dX10_go_33 : decode cX10_go 33 = .ok (.aload_n 0, 1) := by decide +kernel
theorem dX10_go_34 : decode cX10_go 34 = .ok (.getfield 56, 3) := by decide +kernel
theorem dX10_go_37 : decode cX10_go 37 = .ok (.invokevirtual 157, 3) := by decide +kernel
theorem dX10_go_40 : decode cX10_go 40 = .ok (.iinc 3 1, 3) := by decide +kernel
theorem dX10_go_43 : decode cX10_go 43 = .ok (.goto (-19), 3) := by decide +kernel
theorem dX10_go_46 : decode cX10_go 46 = .ok (.aload_n 0, 1) := by decide +kernel
theorem dX10_go_47 : decode cX10_go 47 = .ok (.getfield 19, 3) := by decide +kernel
theorem dX10_go_50 : decode cX10_go 50 = .ok (.getfield 154, 3) := by decide +kernel
theorem dX10_go_53 : decode cX10_go 53 = .ok (.iload_n 2, 1) := by decide +kernel
theorem dX10_go_54 : decode cX10_go 54 = .ok (.isub, 1) := by decide +kernel
theorem dX10_go_55 : decode cX10_go 55 = .ok (.ireturn, 1) := by decide +kernel
theorem dX10_now_0 : decode cX10_now 0 = .ok (.iload_n 1, 1) := by decide +kernel
theorem dX10_now_1 : decode cX10_now 1 = .ok (.tableswitch 128 0 8 #[51, 59, 68, 77, 85, 93, 101, 109, 120], 51) := by decide +kernel
theorem dX10_now_52 : decode cX10_now 52 = .ok (.aload_n 0, 1) := by decide +kernel
theorem dX10_now_53 : decode cX10_now 53 = .ok (.getfield 19, 3) := by decide +kernel
theorem dX10_now_56 : decode cX10_now 56 = .ok (.getfield 160, 3) := by decide +kernel
theorem dX10_now_59 : decode cX10_now 59 = .ok (.ireturn, 1) := by decide +kernel
theorem dX10_now_60 : decode cX10_now 60 = .ok (.aload_n 0, 1) := by decide +kernel
theorem dX10_now_61 : decode cX10_now 61 = .ok (.getfield 19, 3) := by decide +kernel
theorem dX10_now_64 : decode cX10_now 64 = .ok (.iconst 3, 1) := by decide +kernel
theorem dX10_now_65 : decode cX10_now 65 = .ok (.invokevirtual 163, 3) := by decide +kernel
theorem dX10_now_68 : decode cX10_now 68 = .ok (.ireturn, 1) := by decide +kernel
theorem dX10_now_69 : decode cX10_now 69 = .ok (.aload_n 0, 1) := by decide +kernel
theorem dX10_now_70 : decode cX10_now 70 = .ok (.getfield 19, 3) := by decide +kernel
theorem dX10_now_73 : decode cX10_now 73 = .ok (.iconst 2, 1) := by decide +kernel
theorem dX10_now_74 : decode cX10_now 74 = .ok (.invokevirtual 163, 3) := by decide +kernel
theorem dX10_now_77 : decode cX10_now 77 = .ok (.ireturn, 1) := by decide +kernel
theorem dX10_now_78 : decode cX10_now 78 = .ok (.aload_n 0, 1) := by decide +kernel
theorem dX10_now_79 : decode cX10_now 79 = .ok (.getfield 19, 3) := by decide +kernel
theorem dX10_now_82 : decode cX10_now 82 = .ok (.getfield 166, 3) := by decide +kernel
theorem dX10_now_85 : decode cX10_now 85 = .ok (.ireturn, 1) := by decide +kernel
theorem dX10_now_86 : decode cX10_now 86 = .ok (.aload_n 0, 1) := by decide +kernel
theorem dX10_now_87 : decode cX10_now 87 = .ok (.getfield 19, 3) := by decide +kernel
theorem dX10_now_90 : decode cX10_now 90 = .ok (.getfield 169, 3) := by decide +kernel
theorem dX10_now_93 : decode cX10_now 93 = .ok (.ireturn, 1) := by decide +kernel
theorem dX10_now_94 : decode cX10_now 94 = .ok (.aload_n 0, 1) := by decide +kernel
theorem dX10_now_95 : decode cX10_now 95 = .ok (.getfield 19, 3) := by decide +kernel
theorem dX10_now_98 : decode cX10_now 98 = .ok (.getfield 172, 3) := by decide +kernel
theorem dX10_now_101 : decode cX10_now 101 = .ok (.ireturn, 1) := by decide +kernel
theorem dX10_now_102 : decode cX10_now 102 = .ok (.aload_n 0, 1) := by decide +kernel
theorem dX10_now_103 : decode cX10_now 103 = .ok (.getfield 19, 3) := by decide +kernel
theorem dX10_now_106 : decode cX10_now 106 = .ok (.getfield 175, 3) := by decide +kernel
theorem dX10_now_109 : decode cX10_now 109 = .ok (.ireturn, 1) := by decide +kernel
theorem dX10_now_110 : decode cX10_now 110 = .ok (.aload_n 0, 1) := by decide +kernel
theorem dX10_now_111 : decode cX10_now 111 = .ok (.getfield 19, 3) := by decide +kernel
theorem dX10_now_114 : decode cX10_now 114 = .ok (.getfield 139, 3) := by decide +kernel
theorem dX10_now_117 : decode cX10_now 117 = .ok (.invokestatic 128, 3) := by decide +kernel
theorem dX10_now_120 : decode cX10_now 120 = .ok (.ireturn, 1) := by decide +kernel
theorem dX10_now_121 : decode cX10_now 121 = .ok (.aload_n 0, 1) := by decide +kernel
theorem dX10_now_122 : decode cX10_now 122 = .ok (.getfield 19, 3) := by decide +kernel
theorem dX10_now_125 : decode cX10_now 125 = .ok (.getfield 154, 3) := by decide +kernel
theorem dX10_now_128 : decode cX10_now 128 = .ok (.ireturn, 1) := by decide +kernel
theorem dX10_now_129 : decode cX10_now 129 = .ok (.bipush (-9), 2) := by decide +kernel
theorem dX10_now_131 : decode cX10_now 131 = .ok (.ireturn, 1) := by decide +kernel
theorem dX10_is_0 : decode cX10_is 0 = .ok (.aload_n 0, 1) := by decide +kernel
theorem dX10_is_1 : decode cX10_is 1 = .ok (.getfield 56, 3) := by decide +kernel
theorem dX10_is_4 : decode cX10_is 4 = .ok (.iload_n 1, 1) := by decide +kernel
theorem dX10_is_5 : decode cX10_is 5 = .ok (.invokevirtual 100, 3) := by decide +kernel
theorem dX10_is_8 : decode cX10_is 8 = .ok (.ifCond .ne 5, 3) := by decide +kernel
theorem dX10_is_11 : decode cX10_is 11 = .ok (.iconst (-1), 1) := by decide +kernel
theorem dX10_is_12 : decode cX10_is 12 = .ok (.ireturn, 1) := by decide +kernel
theorem dX10_is_13 : decode cX10_is 13 = .ok (.iload_n 2, 1) := by decide +kernel
theorem dX10_is_14 : decode cX10_is 14 = .ok (.tableswitch 86 0 4 #[34, 44, 54, 66, 76], 34) := by decide +kernel
theorem dX10_is_48 : decode cX10_is 48 = .ok (.aload_n 0, 1) := by decide +kernel
theorem dX10_is_49 : decode cX10_is 49 = .ok (.getfield 19, 3) := by decide +kernel
theorem dX10_is_52 : decode cX10_is 52 = .ok (.getfield 178, 3) := by decide +kernel
theorem dX10_is_55 : decode cX10_is 55 = .ok (.iload_n 1, 1) := by decide +kernel
theorem dX10_is_56 : decode cX10_is 56 = .ok (.iaload, 1) := by decide +kernel
theorem dX10_is_57 : decode cX10_is 57 = .ok (.ireturn, 1) := by decide +kernel
theorem dX10_is_58 : decode cX10_is 58 = .ok (.aload_n 0, 1) := by decide +kernel
theorem dX10_is_59 : decode cX10_is 59 = .ok (.getfield 19, 3) := by decide +kernel
theorem dX10_is_62 : decode cX10_is 62 = .ok (.getfield 181, 3) := by decide +kernel
theorem dX10_is_65 : decode cX10_is 65 = .ok (.iload_n 1, 1) := by decide +kernel
theorem dX10_is_66 : decode cX10_is 66 = .ok (.iaload, 1) := by decide +kernel
theorem dX10_is_67 : decode cX10_is 67 = .ok (.ireturn, 1) := by decide +kernel
theorem dX10_is_68 : decode cX10_is 68 = .ok (.aload_n 0, 1) := by decide +kernel
theorem dX10_is_69 : decode cX10_is 69 = .ok (.getfield 19, 3) := by decide +kernel
theorem dX10_is_72 : decode cX10_is 72 = .ok (.getfield 147, 3) := by decide +kernel
theorem dX10_is_75 : decode cX10_is 75 = .ok (.iload_n 1, 1) := by decide +kernel
theorem dX10_is_76 : decode cX10_is 76 = .ok (.ishr, 1) := by decide +kernel
theorem dX10_is_77 : decode cX10_is 77 = .ok (.iconst 1, 1) := by decide +kernel
theorem dX10_is_78 : decode cX10_is 78 = .ok (.iand, 1) := by decide +kernel
theorem dX10_is_79 : decode cX10_is 79 = .ok (.ireturn, 1) := by decide +kernel
theorem dX10_is_80 : decode cX10_is 80 = .ok (.aload_n 0, 1) := by decide +kernel
theorem dX10_is_81 : decode cX10_is 81 = .ok (.getfield 19, 3) := by decide +kernel
theorem dX10_is_84 : decode cX10_is 84 = .ok (.getfield 150, 3) := by decide +kernel
theorem dX10_is_87 : decode cX10_is 87 = .ok (.iload_n 1, 1) := by decide +kernel
theorem dX10_is_88 : decode cX10_is 88 = .ok (.iaload, 1) := by decide +kernel
theorem dX10_is_89 : decode cX10_is 89 = .ok (.ireturn, 1) := by decide +kernel
theorem dX10_is_90 : decode cX10_is 90 = .ok (.aload_n 0, 1) := by decide +kernel
theorem dX10_is_91 : decode cX10_is 91 = .ok (.getfield 19, 3) := by decide +kernel
theorem dX10_is_94 : decode cX10_is 94 = .ok (.getfield 184, 3) := by decide +kernel
theorem dX10_is_97 : decode cX10_is 97 = .ok (.iload_n 1, 1) := by decide +kernel
theorem dX10_is_98 : decode cX10_is 98 = .ok (.iaload, 1) := by decide +kernel
theorem dX10_is_99 : decode cX10_is 99 = .ok (.ireturn, 1) := by decide +kernel
theorem dX10_is_100 : decode cX10_is 100 = .ok (.iconst (-1), 1) := by decide +kernel
theorem dX10_is_101 : decode cX10_is 101 = .ok (.ireturn, 1) := by decide +kernel
theorem dX10_happened_0 : decode cX10_happened 0 = .ok (.iload_n 1, 1) := by decide +kernel
theorem dX10_happened_1 : decode cX10_happened 1 = .ok (.ifCond .lt 17, 3) := by decide +kernel
theorem dX10_happened_4 : decode cX10_happened 4 = .ok (.iload_n 1, 1) := by decide +kernel
theorem dX10_happened_5 : decode cX10_happened 5 = .ok (.aload_n 0, 1) := by decide +kernel
theorem dX10_happened_6 : decode cX10_happened 6 = .ok (.getfield 19, 3) := by decide +kernel
theorem dX10_happened_9 : decode cX10_happened 9 = .ok (.getfield 187, 3) := by decide +kernel
theorem dX10_happened_12 : decode cX10_happened 12 = .ok (.getfield 191, 3) := by decide +kernel
theorem dX10_happened_15 : decode cX10_happened 15 = .ok (.if_icmp .lt 5, 3) := by decide +kernel
theorem dX10_happened_18 : decode cX10_happened 18 = .ok (.iconst (-1), 1) := by decide +kernel
theorem dX10_happened_19 : decode cX10_happened 19 = .ok (.ireturn, 1) := by decide +kernel
theorem dX10_happened_20 : decode cX10_happened 20 = .ok (.iload_n 2, 1) := by decide +kernel
theorem dX10_happened_21 : decode cX10_happened 21 = .ok (.tableswitch 66 0 2 #[27, 40, 53], 27) := by decide +kernel
theorem dX10_happened_48 : decode cX10_happened 48 = .ok (.aload_n 0, 1) := by decide +kernel
theorem dX10_happened_49 : decode cX10_happened 49 = .ok (.getfield 19, 3) := by decide +kernel
theorem dX10_happened_52 : decode cX10_happened 52 = .ok (.getfield 187, 3) := by decide +kernel
theorem dX10_happened_55 : decode cX10_happened 55 = .ok (.getfield 196, 3) := by decide +kernel
theorem dX10_happened_58 : decode cX10_happened 58 = .ok (.iload_n 1, 1) := by decide +kernel
theorem dX10_happened_59 : decode cX10_happened 59 = .ok (.iaload, 1) := by decide +kernel
theorem dX10_happened_60 : decode cX10_happened 60 = .ok (.ireturn, 1) := by decide +kernel
theorem dX10_happened_61 : decode cX10_happened 61 = .ok (.aload_n 0, 1) := by decide +kernel
theorem dX10_happened_62 : decode cX10_happened 62 = .ok (.getfield 19, 3) := by decide +kernel
theorem dX10_happened_65 : decode cX10_happened 65 = .ok (.getfield 187, 3) := by decide +kernel
theorem dX10_happened_68 : decode cX10_happened 68 = .ok (.getfield 199, 3) := by decide +kernel
theorem dX10_happened_71 : decode cX10_happened 71 = .ok (.iload_n 1, 1) := by decide +kernel
theorem dX10_happened_72 : decode cX10_happened 72 = .ok (.iaload, 1) := by decide +kernel
theorem dX10_happened_73 : decode cX10_happened 73 = .ok (.ireturn, 1) := by decide +kernel
theorem dX10_happened_74 : decode cX10_happened 74 = .ok (.aload_n 0, 1) := by decide +kernel
theorem dX10_happened_75 : decode cX10_happened 75 = .ok (.getfield 19, 3) := by decide +kernel
theorem dX10_happened_78 : decode cX10_happened 78 = .ok (.getfield 187, 3) := by decide +kernel
theorem dX10_happened_81 : decode cX10_happened 81 = .ok (.getfield 202, 3) := by decide +kernel
theorem dX10_happened_84 : decode cX10_happened 84 = .ok (.iload_n 1, 1) := by decide +kernel
theorem dX10_happened_85 : decode cX10_happened 85 = .ok (.iaload, 1) := by decide +kernel
theorem dX10_happened_86 : decode cX10_happened 86 = .ok (.ireturn, 1) := by decide +kernel
theorem dX10_happened_87 : decode cX10_happened 87 = .ok (.iconst (-1), 1) := by decide +kernel
theorem dX10_happened_88 : decode cX10_happened 88 = .ok (.ireturn, 1) := by decide +kernel
theorem dX10_up_0 : decode cX10_up 0 = .ok (.aload_n 0, 1) := by decide +kernel
theorem dX10_up_1 : decode cX10_up 1 = .ok (.getfield 56, 3) := by decide +kernel
theorem dX10_up_4 : decode cX10_up 4 = .ok (.invokevirtual 120, 3) := by decide +kernel
theorem dX10_up_7 : decode cX10_up 7 = .ok (.istore_n 2, 1) := by decide +kernel
theorem dX10_up_8 : decode cX10_up 8 = .ok (.iload_n 2, 1) := by decide +kernel
theorem dX10_up_9 : decode cX10_up 9 = .ok (.aload_n 0, 1) := by decide +kernel
theorem dX10_up_10 : decode cX10_up 10 = .ok (.getfield 19, 3) := by decide +kernel
theorem dX10_up_13 : decode cX10_up 13 = .ok (.getfield 147, 3) := by decide +kernel
theorem dX10_up_16 : decode cX10_up 16 = .ok (.iconst (-1), 1) := by decide +kernel
theorem dX10_up_17 : decode cX10_up 17 = .ok (.ixor, 1) := by decide +kernel
theorem dX10_up_18 : decode cX10_up 18 = .ok (.iand, 1) := by decide +kernel
theorem dX10_up_19 : decode cX10_up 19 = .ok (.istore_n 3, 1) := by decide +kernel
theorem dX10_up_20 : decode cX10_up 20 = .ok (.iload_n 1, 1) := by decide +kernel
theorem dX10_up_21 : decode cX10_up 21 = .ok (.tableswitch 62 0 2 #[27, 36, 49], 27) := by decide +kernel
theorem dX10_up_48 : decode cX10_up 48 = .ok (.aload_n 0, 1) := by decide +kernel
theorem dX10_up_49 : decode cX10_up 49 = .ok (.getfield 56, 3) := by decide +kernel
theorem dX10_up_52 : decode cX10_up 52 = .ok (.iload_n 3, 1) := by decide +kernel
theorem dX10_up_53 : decode cX10_up 53 = .ok (.invokevirtual 205, 3) := by decide +kernel
theorem dX10_up_56 : decode cX10_up 56 = .ok (.ireturn, 1) := by decide +kernel
theorem dX10_up_57 : decode cX10_up 57 = .ok (.iload_n 3, 1) := by decide +kernel
theorem dX10_up_58 : decode cX10_up 58 = .ok (.aload_n 0, 1) := by decide +kernel
theorem dX10_up_59 : decode cX10_up 59 = .ok (.getfield 56, 3) := by decide +kernel
theorem dX10_up_62 : decode cX10_up 62 = .ok (.iload_n 3, 1) := by decide +kernel
theorem dX10_up_63 : decode cX10_up 63 = .ok (.invokevirtual 205, 3) := by decide +kernel
theorem dX10_up_66 : decode cX10_up 66 = .ok (.iconst (-1), 1) := by decide +kernel
theorem dX10_up_67 : decode cX10_up 67 = .ok (.ixor, 1) := by decide +kernel
theorem dX10_up_68 : decode cX10_up 68 = .ok (.iand, 1) := by decide +kernel
theorem dX10_up_69 : decode cX10_up 69 = .ok (.ireturn, 1) := by decide +kernel
theorem dX10_up_70 : decode cX10_up 70 = .ok (.iload_n 2, 1) := by decide +kernel
theorem dX10_up_71 : decode cX10_up 71 = .ok (.aload_n 0, 1) := by decide +kernel
theorem dX10_up_72 : decode cX10_up 72 = .ok (.getfield 56, 3) := by decide +kernel
theorem dX10_up_75 : decode cX10_up 75 = .ok (.iload_n 2, 1) := by decide +kernel
theorem dX10_up_76 : decode cX10_up 76 = .ok (.invokevirtual 205, 3) := by decide +kernel
theorem dX10_up_79 : decode cX10_up 79 = .ok (.iconst (-1), 1) := by decide +kernel
theorem dX10_up_80 : decode cX10_up 80 = .ok (.ixor, 1) := by decide +kernel
theorem dX10_up_81 : decode cX10_up 81 = .ok (.iand, 1) := by decide +kernel
theorem dX10_up_82 : decode cX10_up 82 = .ok (.ireturn, 1) := by decide +kernel
theorem dX10_up_83 : decode cX10_up 83 = .ok (.iconst (-1), 1) := by decide +kernel
theorem dX10_up_84 : decode cX10_up 84 = .ok (.ireturn, 1) := by decide +kernel
theorem dX10_when_0 : decode cX10_when 0 = .ok (.aload_n 0, 1) := by decide +kernel
theorem dX10_when_1 : decode cX10_when 1 = .ok (.getfield 56, 3) := by decide +kernel
theorem dX10_when_4 : decode cX10_when 4 = .ok (.iload_n 1, 1) := by decide +kernel
theorem dX10_when_5 : decode cX10_when 5 = .ok (.invokevirtual 100, 3) := by decide +kernel
theorem dX10_when_8 : decode cX10_when 8 = .ok (.ifCond .eq 12, 3) := by decide +kernel
theorem dX10_when_11 : decode cX10_when 11 = .ok (.iload_n 2, 1) := by decide +kernel
theorem dX10_when_12 : decode cX10_when 12 = .ok (.ifCond .lt 8, 3) := by decide +kernel
theorem dX10_when_15 : decode cX10_when 15 = .ok (.iload_n 2, 1) := by decide +kernel
theorem dX10_when_16 : decode cX10_when 16 = .ok (.iconst 2, 1) := by decide +kernel
theorem dX10_when_17 : decode cX10_when 17 = .ok (.if_icmp .le 5, 3) := by decide +kernel
theorem dX10_when_20 : decode cX10_when 20 = .ok (.iconst (-1), 1) := by decide +kernel
theorem dX10_when_21 : decode cX10_when 21 = .ok (.ireturn, 1) := by decide +kernel
theorem dX10_when_22 : decode cX10_when 22 = .ok (.iload_n 2, 1) := by decide +kernel
theorem dX10_when_23 : decode cX10_when 23 = .ok (.ifCond .ne 10, 3) := by decide +kernel
theorem dX10_when_26 : decode cX10_when 26 = .ok (.aload_n 0, 1) := by decide +kernel
theorem dX10_when_27 : decode cX10_when 27 = .ok (.invokevirtual 208, 3) := by decide +kernel
theorem dX10_when_30 : decode cX10_when 30 = .ok (.goto 50, 3) := by decide +kernel
theorem dX10_when_33 : decode cX10_when 33 = .ok (.aload_n 0, 1) := by decide +kernel
theorem dX10_when_34 : decode cX10_when 34 = .ok (.getfield 26, 3) := by decide +kernel
theorem dX10_when_37 : decode cX10_when 37 = .ok (.aload_n 0, 1) := by decide +kernel
theorem dX10_when_38 : decode cX10_when 38 = .ok (.getfield 56, 3) := by decide +kernel
theorem dX10_when_41 : decode cX10_when 41 = .ok (.invokevirtual 211, 3) := by decide +kernel
theorem dX10_when_44 : decode cX10_when 44 = .ok (.aload_n 0, 1) := by decide +kernel
theorem dX10_when_45 : decode cX10_when 45 = .ok (.getfield 26, 3) := by decide +kernel
theorem dX10_when_48 : decode cX10_when 48 = .ok (.aload_n 0, 1) := by decide +kernel
theorem dX10_when_49 : decode cX10_when 49 = .ok (.getfield 56, 3) := by decide +kernel
theorem dX10_when_52 : decode cX10_when 52 = .ok (.iload_n 2, 1) := by decide +kernel
theorem dX10_when_53 : decode cX10_when 53 = .ok (.iconst 1, 1) := by decide +kernel
theorem dX10_when_54 : decode cX10_when 54 = .ok (.if_icmp .ne 7, 3) := by decide +kernel
theorem dX10_when_57 : decode cX10_when 57 = .ok (.iconst 0, 1) := by decide +kernel
theorem dX10_when_58 : decode cX10_when 58 = .ok (.goto 4, 3) := by decide +kernel
theorem dX10_when_61 : decode cX10_when 61 = .ok (.iconst 1, 1) := by decide +kernel
theorem dX10_when_62 : decode cX10_when 62 = .ok (.invokevirtual 214, 3) := by decide +kernel
theorem dX10_when_65 : decode cX10_when 65 = .ok (.aload_n 0, 1) := by decide +kernel
theorem dX10_when_66 : decode cX10_when 66 = .ok (.getfield 26, 3) := by decide +kernel
theorem dX10_when_69 : decode cX10_when 69 = .ok (.aload_n 0, 1) := by decide +kernel
theorem dX10_when_70 : decode cX10_when 70 = .ok (.getfield 56, 3) := by decide +kernel
theorem dX10_when_73 : decode cX10_when 73 = .ok (.aload_n 0, 1) := by decide +kernel
theorem dX10_when_74 : decode cX10_when 74 = .ok (.invokevirtual 218, 3) := by decide +kernel
theorem dX10_when_77 : decode cX10_when 77 = .ok (.invokevirtual 221, 3) := by decide +kernel
theorem dX10_when_80 : decode cX10_when 80 = .ok (.aload_n 0, 1) := by decide +kernel
theorem dX10_when_81 : decode cX10_when 81 = .ok (.getfield 26, 3) := by decide +kernel
theorem dX10_when_84 : decode cX10_when 84 = .ok (.iload_n 1, 1) := by decide +kernel
theorem dX10_when_85 : decode cX10_when 85 = .ok (.invokevirtual 224, 3) := by decide +kernel
theorem dX10_when_88 : decode cX10_when 88 = .ok (.ifCond .eq 15, 3) := by decide +kernel
theorem dX10_when_91 : decode cX10_when 91 = .ok (.aload_n 0, 1) := by decide +kernel
theorem dX10_when_92 : decode cX10_when 92 = .ok (.getfield 26, 3) := by decide +kernel
theorem dX10_when_95 : decode cX10_when 95 = .ok (.getfield 227, 3) := by decide +kernel
theorem dX10_when_98 : decode cX10_when 98 = .ok (.iload_n 1, 1) := by decide +kernel
theorem dX10_when_99 : decode cX10_when 99 = .ok (.iaload, 1) := by decide +kernel
theorem dX10_when_100 : decode cX10_when 100 = .ok (.goto 5, 3) := by decide +kernel
theorem dX10_when_103 : decode cX10_when 103 = .ok (.bipush (-4), 2) := by decide +kernel
theorem dX10_when_105 : decode cX10_when 105 = .ok (.ireturn, 1) := by decide +kernel
theorem dX10_ahead_0 : decode cX10_ahead 0 = .ok (.aload_n 0, 1) := by decide +kernel
theorem dX10_ahead_1 : decode cX10_ahead 1 = .ok (.getfield 56, 3) := by decide +kernel
theorem dX10_ahead_4 : decode cX10_ahead 4 = .ok (.iload_n 1, 1) := by decide +kernel
theorem dX10_ahead_5 : decode cX10_ahead 5 = .ok (.invokevirtual 100, 3) := by decide +kernel
theorem dX10_ahead_8 : decode cX10_ahead 8 = .ok (.ifCond .eq 28, 3) := by decide +kernel
theorem dX10_ahead_11 : decode cX10_ahead 11 = .ok (.aload_n 0, 1) := by decide +kernel
theorem dX10_ahead_12 : decode cX10_ahead 12 = .ok (.getfield 56, 3) := by decide +kernel
theorem dX10_ahead_15 : decode cX10_ahead 15 = .ok (.iload_n 2, 1) := by decide +kernel
theorem dX10_ahead_16 : decode cX10_ahead 16 = .ok (.invokevirtual 100, 3) := by decide +kernel
theorem dX10_ahead_19 : decode cX10_ahead 19 = .ok (.ifCond .eq 17, 3) := by decide +kernel
theorem dX10_ahead_22 : decode cX10_ahead 22 = .ok (.iload_n 1, 1) := by decide +kernel
theorem dX10_ahead_23 : decode cX10_ahead 23 = .ok (.iload_n 2, 1) := by decide +kernel
theorem dX10_ahead_24 : decode cX10_ahead 24 = .ok (.if_icmp .eq 12, 3) := by decide +kernel
theorem dX10_ahead_27 : decode cX10_ahead 27 = .ok (.iload_n 3, 1) := by decide +kernel
theorem dX10_ahead_28 : decode cX10_ahead 28 = .ok (.ifCond .lt 8, 3) := by decide +kernel
theorem dX10_ahead_31 : decode cX10_ahead 31 = .ok (.iload_n 3, 1) := by decide +kernel
theorem dX10_ahead_32 : decode cX10_ahead 32 = .ok (.iconst 1, 1) := by decide +kernel
theorem dX10_ahead_33 : decode cX10_ahead 33 = .ok (.if_icmp .le 7, 3) := by decide +kernel
theorem dX10_ahead_36 : decode cX10_ahead 36 = .ok (.sipush (-1000), 3) := by decide +kernel
theorem dX10_ahead_39 : decode cX10_ahead 39 = .ok (.ireturn, 1) := by decide +kernel
theorem dX10_ahead_40 : decode cX10_ahead 40 = .ok (.aload_n 0, 1) := by decide +kernel
theorem dX10_ahead_41 : decode cX10_ahead 41 = .ok (.getfield 56, 3) := by decide +kernel
theorem dX10_ahead_44 : decode cX10_ahead 44 = .ok (.invokevirtual 230, 3) := by decide +kernel
theorem dX10_ahead_47 : decode cX10_ahead 47 = .ok (.sipush 20000, 3) := by decide +kernel
theorem dX10_ahead_50 : decode cX10_ahead 50 = .ok (.if_icmp .le 7, 3) := by decide +kernel
theorem dX10_ahead_53 : decode cX10_ahead 53 = .ok (.sipush (-1002), 3) := by decide +kernel
theorem dX10_ahead_56 : decode cX10_ahead 56 = .ok (.ireturn, 1) := by decide +kernel
theorem dX10_ahead_57 : decode cX10_ahead 57 = .ok (.iconst 1, 1) := by decide +kernel
theorem dX10_ahead_58 : decode cX10_ahead 58 = .ok (.iload_n 1, 1) := by decide +kernel
theorem dX10_ahead_59 : decode cX10_ahead 59 = .ok (.ishl, 1) := by decide +kernel
theorem dX10_ahead_60 : decode cX10_ahead 60 = .ok (.iconst 1, 1) := by decide +kernel
theorem dX10_ahead_61 : decode cX10_ahead 61 = .ok (.iload_n 2, 1) := by decide +kernel
theorem dX10_ahead_62 : decode cX10_ahead 62 = .ok (.ishl, 1) := by decide +kernel
theorem dX10_ahead_63 : decode cX10_ahead 63 = .ok (.ior, 1) := by decide +kernel
theorem dX10_ahead_64 : decode cX10_ahead 64 = .ok (.istore 4, 2) := by decide +kernel
theorem dX10_ahead_66 : decode cX10_ahead 66 = .ok (.aload_n 0, 1) := by decide +kernel
theorem dX10_ahead_67 : decode cX10_ahead 67 = .ok (.getfield 56, 3) := by decide +kernel
theorem dX10_ahead_70 : decode cX10_ahead 70 = .ok (.aload_n 0, 1) := by decide +kernel
theorem dX10_ahead_71 : decode cX10_ahead 71 = .ok (.invokevirtual 218, 3) := by decide +kernel
theorem dX10_ahead_74 : decode cX10_ahead 74 = .ok (.invokevirtual 205, 3) := by decide +kernel
theorem dX10_ahead_77 : decode cX10_ahead 77 = .ok (.iload 4, 2) := by decide +kernel
theorem dX10_ahead_79 : decode cX10_ahead 79 = .ok (.iand, 1) := by decide +kernel
theorem dX10_ahead_80 : decode cX10_ahead 80 = .ok (.iload 4, 2) := by decide +kernel
theorem dX10_ahead_82 : decode cX10_ahead 82 = .ok (.if_icmp .eq 7, 3) := by decide +kernel
theorem dX10_ahead_85 : decode cX10_ahead 85 = .ok (.sipush (-1004), 3) := by decide +kernel
theorem dX10_ahead_88 : decode cX10_ahead 88 = .ok (.ireturn, 1) := by decide +kernel
theorem dX10_ahead_89 : decode cX10_ahead 89 = .ok (.aload_n 0, 1) := by decide +kernel
theorem dX10_ahead_90 : decode cX10_ahead 90 = .ok (.getfield 35, 3) := by decide +kernel
theorem dX10_ahead_93 : decode cX10_ahead 93 = .ok (.aload_n 0, 1) := by decide +kernel
theorem dX10_ahead_94 : decode cX10_ahead 94 = .ok (.getfield 56, 3) := by decide +kernel
theorem dX10_ahead_97 : decode cX10_ahead 97 = .ok (.aload_n 0, 1) := by decide +kernel
theorem dX10_ahead_98 : decode cX10_ahead 98 = .ok (.invokevirtual 218, 3) := by decide +kernel
theorem dX10_ahead_101 : decode cX10_ahead 101 = .ok (.iload_n 1, 1) := by decide +kernel
theorem dX10_ahead_102 : decode cX10_ahead 102 = .ok (.iload_n 2, 1) := by decide +kernel
theorem dX10_ahead_103 : decode cX10_ahead 103 = .ok (.invokevirtual 233, 3) := by decide +kernel
theorem dX10_ahead_106 : decode cX10_ahead 106 = .ok (.istore 5, 2) := by decide +kernel
theorem dX10_ahead_108 : decode cX10_ahead 108 = .ok (.iload_n 3, 1) := by decide +kernel
theorem dX10_ahead_109 : decode cX10_ahead 109 = .ok (.iconst 1, 1) := by decide +kernel
theorem dX10_ahead_110 : decode cX10_ahead 110 = .ok (.if_icmp .ne 6, 3) := by decide +kernel
theorem dX10_ahead_113 : decode cX10_ahead 113 = .ok (.iload 5, 2) := by decide +kernel
theorem dX10_ahead_115 : decode cX10_ahead 115 = .ok (.ireturn, 1) := by decide +kernel
theorem dX10_ahead_116 : decode cX10_ahead 116 = .ok (.iload 5, 2) := by decide +kernel
theorem dX10_ahead_118 : decode cX10_ahead 118 = .ok (.ifCond .ge 7, 3) := by decide +kernel
theorem dX10_ahead_121 : decode cX10_ahead 121 = .ok (.iconst 2, 1) := by decide +kernel
theorem dX10_ahead_122 : decode cX10_ahead 122 = .ok (.goto 13, 3) := by decide +kernel
theorem dX10_ahead_125 : decode cX10_ahead 125 = .ok (.iload 5, 2) := by decide +kernel
theorem dX10_ahead_127 : decode cX10_ahead 127 = .ok (.ifCond .ne 7, 3) := by decide +kernel
theorem dX10_ahead_130 : decode cX10_ahead 130 = .ok (.iconst 1, 1) := by decide +kernel
theorem dX10_ahead_131 : decode cX10_ahead 131 = .ok (.goto 4, 3) := by decide +kernel
theorem dX10_ahead_134 : decode cX10_ahead 134 = .ok (.iconst 0, 1) := by decide +kernel
theorem dX10_ahead_135 : decode cX10_ahead 135 = .ok (.ireturn, 1) := by decide +kernel
theorem dX10_drawn_0 : decode cX10_drawn 0 = .ok (.iload_n 1, 1) := by decide +kernel
theorem dX10_drawn_1 : decode cX10_drawn 1 = .ok (.ifCond .lt 10, 3) := by decide +kernel
theorem dX10_drawn_4 : decode cX10_drawn 4 = .ok (.iload_n 1, 1) := by decide +kernel
theorem dX10_drawn_5 : decode cX10_drawn 5 = .ok (.sipush 999, 3) := by decide +kernel
theorem dX10_drawn_8 : decode cX10_drawn 8 = .ok (.if_icmp .le 5, 3) := by decide +kernel
theorem dX10_drawn_11 : decode cX10_drawn 11 = .ok (.iconst (-1), 1) := by decide +kernel
theorem dX10_drawn_12 : decode cX10_drawn 12 = .ok (.ireturn, 1) := by decide +kernel
theorem dX10_drawn_13 : decode cX10_drawn 13 = .ok (.aload_n 0, 1) := by decide +kernel
theorem dX10_drawn_14 : decode cX10_drawn 14 = .ok (.invokevirtual 208, 3) := by decide +kernel
theorem dX10_drawn_17 : decode cX10_drawn 17 = .ok (.aload_n 0, 1) := by decide +kernel
theorem dX10_drawn_18 : decode cX10_drawn 18 = .ok (.getfield 26, 3) := by decide +kernel
theorem dX10_drawn_21 : decode cX10_drawn 21 = .ok (.aload_n 0, 1) := by decide +kernel
theorem dX10_drawn_22 : decode cX10_drawn 22 = .ok (.getfield 56, 3) := by decide +kernel
theorem dX10_drawn_25 : decode cX10_drawn 25 = .ok (.iload_n 1, 1) := by decide +kernel
theorem dX10_drawn_26 : decode cX10_drawn 26 = .ok (.invokevirtual 237, 3) := by decide +kernel
theorem dX10_drawn_29 : decode cX10_drawn 29 = .ok (.ireturn, 1) := by decide +kernel
theorem dX10_peak_0 : decode cX10_peak 0 = .ok (.iload_n 1, 1) := by decide +kernel
theorem dX10_peak_1 : decode cX10_peak 1 = .ok (.ifCond .lt 8, 3) := by decide +kernel
theorem dX10_peak_4 : decode cX10_peak 4 = .ok (.iload_n 1, 1) := by decide +kernel
theorem dX10_peak_5 : decode cX10_peak 5 = .ok (.iconst 3, 1) := by decide +kernel
theorem dX10_peak_6 : decode cX10_peak 6 = .ok (.if_icmp .le 5, 3) := by decide +kernel
theorem dX10_peak_9 : decode cX10_peak 9 = .ok (.iconst (-1), 1) := by decide +kernel
theorem dX10_peak_10 : decode cX10_peak 10 = .ok (.ireturn, 1) := by decide +kernel
theorem dX10_peak_11 : decode cX10_peak 11 = .ok (.iload_n 1, 1) := by decide +kernel
theorem dX10_peak_12 : decode cX10_peak 12 = .ok (.iconst 2, 1) := by decide +kernel
theorem dX10_peak_13 : decode cX10_peak 13 = .ok (.if_icmp .lt 19, 3) := by decide +kernel
theorem dX10_peak_16 : decode cX10_peak 16 = .ok (.aload_n 0, 1) := by decide +kernel
theorem dX10_peak_17 : decode cX10_peak 17 = .ok (.getfield 56, 3) := by decide +kernel
theorem dX10_peak_20 : decode cX10_peak 20 = .ok (.invokevirtual 230, 3) := by decide +kernel
theorem dX10_peak_23 : decode cX10_peak 23 = .ok (.sipush 20000, 3) := by decide +kernel
theorem dX10_peak_26 : decode cX10_peak 26 = .ok (.if_icmp .le 6, 3) := by decide +kernel
theorem dX10_peak_29 : decode cX10_peak 29 = .ok (.bipush (-2), 2) := by decide +kernel
theorem dX10_peak_31 : decode cX10_peak 31 = .ok (.ireturn, 1) := by decide +kernel
theorem dX10_peak_32 : decode cX10_peak 32 = .ok (.aload_n 0, 1) := by decide +kernel
theorem dX10_peak_33 : decode cX10_peak 33 = .ok (.getfield 56, 3) := by decide +kernel
theorem dX10_peak_36 : decode cX10_peak 36 = .ok (.aload_n 0, 1) := by decide +kernel
theorem dX10_peak_37 : decode cX10_peak 37 = .ok (.invokevirtual 218, 3) := by decide +kernel
theorem dX10_peak_40 : decode cX10_peak 40 = .ok (.invokevirtual 205, 3) := by decide +kernel
theorem dX10_peak_43 : decode cX10_peak 43 = .ok (.ifCond .ne 6, 3) := by decide +kernel
theorem dX10_peak_46 : decode cX10_peak 46 = .ok (.bipush (-4), 2) := by decide +kernel
theorem dX10_peak_48 : decode cX10_peak 48 = .ok (.ireturn, 1) := by decide +kernel
theorem dX10_peak_49 : decode cX10_peak 49 = .ok (.iload_n 1, 1) := by decide +kernel
theorem dX10_peak_50 : decode cX10_peak 50 = .ok (.iconst 2, 1) := by decide +kernel
theorem dX10_peak_51 : decode cX10_peak 51 = .ok (.if_icmp .lt 41, 3) := by decide +kernel
theorem dX10_peak_54 : decode cX10_peak 54 = .ok (.aload_n 0, 1) := by decide +kernel
theorem dX10_peak_55 : decode cX10_peak 55 = .ok (.getfield 35, 3) := by decide +kernel
theorem dX10_peak_58 : decode cX10_peak 58 = .ok (.aload_n 0, 1) := by decide +kernel
theorem dX10_peak_59 : decode cX10_peak 59 = .ok (.getfield 56, 3) := by decide +kernel
theorem dX10_peak_62 : decode cX10_peak 62 = .ok (.aload_n 0, 1) := by decide +kernel
theorem dX10_peak_63 : decode cX10_peak 63 = .ok (.invokevirtual 218, 3) := by decide +kernel
theorem dX10_peak_66 : decode cX10_peak 66 = .ok (.invokevirtual 241, 3) := by decide +kernel
theorem dX10_peak_69 : decode cX10_peak 69 = .ok (.iload_n 1, 1) := by decide +kernel
theorem dX10_peak_70 : decode cX10_peak 70 = .ok (.iconst 2, 1) := by decide +kernel
theorem dX10_peak_71 : decode cX10_peak 71 = .ok (.if_icmp .ne 13, 3) := by decide +kernel
theorem dX10_peak_74 : decode cX10_peak 74 = .ok (.aload_n 0, 1) := by decide +kernel
theorem dX10_peak_75 : decode cX10_peak 75 = .ok (.getfield 35, 3) := by decide +kernel
theorem dX10_peak_78 : decode cX10_peak 78 = .ok (.getfield 244, 3) := by decide +kernel
theorem dX10_peak_81 : decode cX10_peak 81 = .ok (.goto 10, 3) := by decide +kernel
theorem dX10_peak_84 : decode cX10_peak 84 = .ok (.aload_n 0, 1) := by decide +kernel
theorem dX10_peak_85 : decode cX10_peak 85 = .ok (.getfield 35, 3) := by decide +kernel
theorem dX10_peak_88 : decode cX10_peak 88 = .ok (.getfield 247, 3) := by decide +kernel
theorem dX10_peak_91 : decode cX10_peak 91 = .ok (.ireturn, 1) := by decide +kernel
theorem dX10_peak_92 : decode cX10_peak 92 = .ok (.aload_n 0, 1) := by decide +kernel
theorem dX10_peak_93 : decode cX10_peak 93 = .ok (.invokevirtual 208, 3) := by decide +kernel
theorem dX10_peak_96 : decode cX10_peak 96 = .ok (.aload_n 0, 1) := by decide +kernel
theorem dX10_peak_97 : decode cX10_peak 97 = .ok (.getfield 26, 3) := by decide +kernel
theorem dX10_peak_100 : decode cX10_peak 100 = .ok (.aload_n 0, 1) := by decide +kernel
theorem dX10_peak_101 : decode cX10_peak 101 = .ok (.getfield 56, 3) := by decide +kernel
theorem dX10_peak_104 : decode cX10_peak 104 = .ok (.invokevirtual 250, 3) := by decide +kernel
theorem dX10_peak_107 : decode cX10_peak 107 = .ok (.iload_n 1, 1) := by decide +kernel
theorem dX10_peak_108 : decode cX10_peak 108 = .ok (.ifCond .ne 13, 3) := by decide +kernel
theorem dX10_peak_111 : decode cX10_peak 111 = .ok (.aload_n 0, 1) := by decide +kernel
theorem dX10_peak_112 : decode cX10_peak 112 = .ok (.getfield 26, 3) := by decide +kernel
theorem dX10_peak_115 : decode cX10_peak 115 = .ok (.getfield 253, 3) := by decide +kernel
theorem dX10_peak_118 : decode cX10_peak 118 = .ok (.goto 10, 3) := by decide +kernel
theorem dX10_peak_121 : decode cX10_peak 121 = .ok (.aload_n 0, 1) := by decide +kernel
theorem dX10_peak_122 : decode cX10_peak 122 = .ok (.getfield 26, 3) := by decide +kernel
theorem dX10_peak_125 : decode cX10_peak 125 = .ok (.getfield 256, 3) := by decide +kernel
theorem dX10_peak_128 : decode cX10_peak 128 = .ok (.ireturn, 1) := by decide +kernel
theorem dX10_stagger_0 : decode cX10_stagger 0 = .ok (.iload_n 1, 1) := by decide +kernel
theorem dX10_stagger_1 : decode cX10_stagger 1 = .ok (.ifCond .eq 25, 3) := by decide +kernel
theorem dX10_stagger_4 : decode cX10_stagger 4 = .ok (.iload_n 1, 1) := by decide +kernel
theorem dX10_stagger_5 : decode cX10_stagger 5 = .ok (.bipush 10, 2) := by decide +kernel
theorem dX10_stagger_7 : decode cX10_stagger 7 = .ok (.if_icmp .lt 17, 3) := by decide +kernel
theorem dX10_stagger_10 : decode cX10_stagger 10 = .ok (.iload_n 1, 1) := by decide +kernel
theorem dX10_stagger_11 : decode cX10_stagger 11 = .ok (.bipush 10, 2) := by decide +kernel
theorem dX10_stagger_13 : decode cX10_stagger 13 = .ok (.aload_n 0, 1) := by decide +kernel
theorem dX10_stagger_14 : decode cX10_stagger 14 = .ok (.getfield 56, 3) := by decide +kernel
theorem dX10_stagger_17 : decode cX10_stagger 17 = .ok (.getfield 117, 3) := by decide +kernel
theorem dX10_stagger_20 : decode cX10_stagger 20 = .ok (.iadd, 1) := by decide +kernel
theorem dX10_stagger_21 : decode cX10_stagger 21 = .ok (.if_icmp .lt 5, 3) := by decide +kernel
theorem dX10_stagger_24 : decode cX10_stagger 24 = .ok (.iconst (-1), 1) := by decide +kernel
theorem dX10_stagger_25 : decode cX10_stagger 25 = .ok (.ireturn, 1) := by decide +kernel
theorem dX10_stagger_26 : decode cX10_stagger 26 = .ok (.aload_n 0, 1) := by decide +kernel
theorem dX10_stagger_27 : decode cX10_stagger 27 = .ok (.getfield 56, 3) := by decide +kernel
theorem dX10_stagger_30 : decode cX10_stagger 30 = .ok (.getfield 117, 3) := by decide +kernel
theorem dX10_stagger_33 : decode cX10_stagger 33 = .ok (.bipush 6, 2) := by decide +kernel
theorem dX10_stagger_35 : decode cX10_stagger 35 = .ok (.if_icmp .le 6, 3) := by decide +kernel
theorem dX10_stagger_38 : decode cX10_stagger 38 = .ok (.bipush (-2), 2) := by decide +kernel
theorem dX10_stagger_40 : decode cX10_stagger 40 = .ok (.ireturn, 1) := by decide +kernel
theorem dX10_stagger_41 : decode cX10_stagger 41 = .ok (.aload_n 0, 1) := by decide +kernel
theorem dX10_stagger_42 : decode cX10_stagger 42 = .ok (.getfield 42, 3) := by decide +kernel
theorem dX10_stagger_45 : decode cX10_stagger 45 = .ok (.aload_n 0, 1) := by decide +kernel
theorem dX10_stagger_46 : decode cX10_stagger 46 = .ok (.getfield 56, 3) := by decide +kernel
theorem dX10_stagger_49 : decode cX10_stagger 49 = .ok (.aload_n 0, 1) := by decide +kernel
theorem dX10_stagger_50 : decode cX10_stagger 50 = .ok (.invokevirtual 218, 3) := by decide +kernel
theorem dX10_stagger_53 : decode cX10_stagger 53 = .ok (.aload_n 0, 1) := by decide +kernel
theorem dX10_stagger_54 : decode cX10_stagger 54 = .ok (.getfield 19, 3) := by decide +kernel
theorem dX10_stagger_57 : decode cX10_stagger 57 = .ok (.getfield 150, 3) := by decide +kernel
theorem dX10_stagger_60 : decode cX10_stagger 60 = .ok (.invokevirtual 259, 3) := by decide +kernel
theorem dX10_stagger_63 : decode cX10_stagger 63 = .ok (.iload_n 1, 1) := by decide +kernel
theorem dX10_stagger_64 : decode cX10_stagger 64 = .ok (.ifCond .eq 15, 3) := by decide +kernel
theorem dX10_stagger_67 : decode cX10_stagger 67 = .ok (.aload_n 0, 1) := by decide +kernel
theorem dX10_stagger_68 : decode cX10_stagger 68 = .ok (.getfield 42, 3) := by decide +kernel
theorem dX10_stagger_71 : decode cX10_stagger 71 = .ok (.getfield 263, 3) := by decide +kernel
theorem dX10_stagger_74 : decode cX10_stagger 74 = .ok (.bipush (-4), 2) := by decide +kernel
theorem dX10_stagger_76 : decode cX10_stagger 76 = .ok (.if_icmp .ne 11, 3) := by decide +kernel
theorem dX10_stagger_79 : decode cX10_stagger 79 = .ok (.aload_n 0, 1) := by decide +kernel
theorem dX10_stagger_80 : decode cX10_stagger 80 = .ok (.getfield 42, 3) := by decide +kernel
theorem dX10_stagger_83 : decode cX10_stagger 83 = .ok (.getfield 263, 3) := by decide +kernel
theorem dX10_stagger_86 : decode cX10_stagger 86 = .ok (.ireturn, 1) := by decide +kernel
theorem dX10_stagger_87 : decode cX10_stagger 87 = .ok (.aload_n 0, 1) := by decide +kernel
theorem dX10_stagger_88 : decode cX10_stagger 88 = .ok (.getfield 42, 3) := by decide +kernel
theorem dX10_stagger_91 : decode cX10_stagger 91 = .ok (.getfield 266, 3) := by decide +kernel
theorem dX10_stagger_94 : decode cX10_stagger 94 = .ok (.iload_n 1, 1) := by decide +kernel
theorem dX10_stagger_95 : decode cX10_stagger 95 = .ok (.bipush 10, 2) := by decide +kernel
theorem dX10_stagger_97 : decode cX10_stagger 97 = .ok (.isub, 1) := by decide +kernel
theorem dX10_stagger_98 : decode cX10_stagger 98 = .ok (.iaload, 1) := by decide +kernel
theorem dX10_stagger_99 : decode cX10_stagger 99 = .ok (.ireturn, 1) := by decide +kernel
theorem dX10_adopt_0 : decode cX10_adopt 0 = .ok (.aload_n 0, 1) := by decide +kernel
theorem dX10_adopt_1 : decode cX10_adopt 1 = .ok (.getfield 56, 3) := by decide +kernel
theorem dX10_adopt_4 : decode cX10_adopt 4 = .ok (.getfield 117, 3) := by decide +kernel
theorem dX10_adopt_7 : decode cX10_adopt 7 = .ok (.bipush 6, 2) := by decide +kernel
theorem dX10_adopt_9 : decode cX10_adopt 9 = .ok (.if_icmp .le 6, 3) := by decide +kernel
theorem dX10_adopt_12 : decode cX10_adopt 12 = .ok (.bipush (-2), 2) := by decide +kernel
theorem dX10_adopt_14 : decode cX10_adopt 14 = .ok (.ireturn, 1) := by decide +kernel
theorem dX10_adopt_15 : decode cX10_adopt 15 = .ok (.aload_n 0, 1) := by decide +kernel
theorem dX10_adopt_16 : decode cX10_adopt 16 = .ok (.getfield 42, 3) := by decide +kernel
theorem dX10_adopt_19 : decode cX10_adopt 19 = .ok (.aload_n 0, 1) := by decide +kernel
theorem dX10_adopt_20 : decode cX10_adopt 20 = .ok (.getfield 56, 3) := by decide +kernel
theorem dX10_adopt_23 : decode cX10_adopt 23 = .ok (.aload_n 0, 1) := by decide +kernel
theorem dX10_adopt_24 : decode cX10_adopt 24 = .ok (.invokevirtual 218, 3) := by decide +kernel
theorem dX10_adopt_27 : decode cX10_adopt 27 = .ok (.aload_n 0, 1) := by decide +kernel
theorem dX10_adopt_28 : decode cX10_adopt 28 = .ok (.getfield 19, 3) := by decide +kernel
theorem dX10_adopt_31 : decode cX10_adopt 31 = .ok (.getfield 150, 3) := by decide +kernel
theorem dX10_adopt_34 : decode cX10_adopt 34 = .ok (.invokevirtual 259, 3) := by decide +kernel
theorem dX10_adopt_37 : decode cX10_adopt 37 = .ok (.aload_n 0, 1) := by decide +kernel
theorem dX10_adopt_38 : decode cX10_adopt 38 = .ok (.getfield 42, 3) := by decide +kernel
theorem dX10_adopt_41 : decode cX10_adopt 41 = .ok (.getfield 263, 3) := by decide +kernel
theorem dX10_adopt_44 : decode cX10_adopt 44 = .ok (.istore_n 1, 1) := by decide +kernel
theorem dX10_adopt_45 : decode cX10_adopt 45 = .ok (.iload_n 1, 1) := by decide +kernel
theorem dX10_adopt_46 : decode cX10_adopt 46 = .ok (.bipush (-4), 2) := by decide +kernel
theorem dX10_adopt_48 : decode cX10_adopt 48 = .ok (.if_icmp .eq 21, 3) := by decide +kernel
theorem dX10_adopt_51 : decode cX10_adopt 51 = .ok (.aload_n 0, 1) := by decide +kernel
theorem dX10_adopt_52 : decode cX10_adopt 52 = .ok (.getfield 56, 3) := by decide +kernel
theorem dX10_adopt_55 : decode cX10_adopt 55 = .ok (.aload_n 0, 1) := by decide +kernel
theorem dX10_adopt_56 : decode cX10_adopt 56 = .ok (.getfield 42, 3) := by decide +kernel
theorem dX10_adopt_59 : decode cX10_adopt 59 = .ok (.getfield 266, 3) := by decide +kernel
theorem dX10_adopt_62 : decode cX10_adopt 62 = .ok (.invokevirtual 269, 3) := by decide +kernel
theorem dX10_adopt_65 : decode cX10_adopt 65 = .ok (.aload_n 0, 1) := by decide +kernel
theorem dX10_adopt_66 : decode cX10_adopt 66 = .ok (.invokevirtual 97, 3) := by decide +kernel
theorem dX10_adopt_69 : decode cX10_adopt 69 = .ok (.iload_n 1, 1) := by decide +kernel
theorem dX10_adopt_70 : decode cX10_adopt 70 = .ok (.ireturn, 1) := by decide +kernel
theorem dX10_down_0 : decode cX10_down 0 = .ok (.iload_n 1, 1) := by decide +kernel
theorem dX10_down_1 : decode cX10_down 1 = .ok (.aload_n 0, 1) := by decide +kernel
theorem dX10_down_2 : decode cX10_down 2 = .ok (.getfield 56, 3) := by decide +kernel
theorem dX10_down_5 : decode cX10_down 5 = .ok (.invokevirtual 120, 3) := by decide +kernel
theorem dX10_down_8 : decode cX10_down 8 = .ok (.iconst (-1), 1) := by decide +kernel
theorem dX10_down_9 : decode cX10_down 9 = .ok (.ixor, 1) := by decide +kernel
theorem dX10_down_10 : decode cX10_down 10 = .ok (.iand, 1) := by decide +kernel
theorem dX10_down_11 : decode cX10_down 11 = .ok (.ifCond .eq 5, 3) := by decide +kernel
theorem dX10_down_14 : decode cX10_down 14 = .ok (.iconst (-1), 1) := by decide +kernel
theorem dX10_down_15 : decode cX10_down 15 = .ok (.ireturn, 1) := by decide +kernel
theorem dX10_down_16 : decode cX10_down 16 = .ok (.aload_n 0, 1) := by decide +kernel
theorem dX10_down_17 : decode cX10_down 17 = .ok (.getfield 56, 3) := by decide +kernel
theorem dX10_down_20 : decode cX10_down 20 = .ok (.aload_n 0, 1) := by decide +kernel
theorem dX10_down_21 : decode cX10_down 21 = .ok (.invokevirtual 218, 3) := by decide +kernel
theorem dX10_down_24 : decode cX10_down 24 = .ok (.invokevirtual 205, 3) := by decide +kernel
theorem dX10_down_27 : decode cX10_down 27 = .ok (.aload_n 0, 1) := by decide +kernel
theorem dX10_down_28 : decode cX10_down 28 = .ok (.getfield 56, 3) := by decide +kernel
theorem dX10_down_31 : decode cX10_down 31 = .ok (.aload_n 0, 1) := by decide +kernel
theorem dX10_down_32 : decode cX10_down 32 = .ok (.invokevirtual 218, 3) := by decide +kernel
theorem dX10_down_35 : decode cX10_down 35 = .ok (.iload_n 1, 1) := by decide +kernel
theorem dX10_down_36 : decode cX10_down 36 = .ok (.iconst (-1), 1) := by decide +kernel
theorem dX10_down_37 : decode cX10_down 37 = .ok (.ixor, 1) := by decide +kernel
theorem dX10_down_38 : decode cX10_down 38 = .ok (.iand, 1) := by decide +kernel
theorem dX10_down_39 : decode cX10_down 39 = .ok (.invokevirtual 205, 3) := by decide +kernel
theorem dX10_down_42 : decode cX10_down 42 = .ok (.iconst (-1), 1) := by decide +kernel
theorem dX10_down_43 : decode cX10_down 43 = .ok (.ixor, 1) := by decide +kernel
theorem dX10_down_44 : decode cX10_down 44 = .ok (.iand, 1) := by decide +kernel
theorem dX10_down_45 : decode cX10_down 45 = .ok (.ireturn, 1) := by decide +kernel
theorem dX10_cut_0 : decode cX10_cut 0 = .ok (.aload_n 0, 1) := by decide +kernel
theorem dX10_cut_1 : decode cX10_cut 1 = .ok (.getfield 56, 3) := by decide +kernel
theorem dX10_cut_4 : decode cX10_cut 4 = .ok (.iload_n 1, 1) := by decide +kernel
theorem dX10_cut_5 : decode cX10_cut 5 = .ok (.invokevirtual 100, 3) := by decide +kernel
theorem dX10_cut_8 : decode cX10_cut 8 = .ok (.ifCond .eq 12, 3) := by decide +kernel
theorem dX10_cut_11 : decode cX10_cut 11 = .ok (.iload_n 2, 1) := by decide +kernel
theorem dX10_cut_12 : decode cX10_cut 12 = .ok (.ifCond .lt 8, 3) := by decide +kernel
theorem dX10_cut_15 : decode cX10_cut 15 = .ok (.iload_n 2, 1) := by decide +kernel
theorem dX10_cut_16 : decode cX10_cut 16 = .ok (.iconst 1, 1) := by decide +kernel
theorem dX10_cut_17 : decode cX10_cut 17 = .ok (.if_icmp .le 5, 3) := by decide +kernel
theorem dX10_cut_20 : decode cX10_cut 20 = .ok (.iconst (-1), 1) := by decide +kernel
theorem dX10_cut_21 : decode cX10_cut 21 = .ok (.ireturn, 1) := by decide +kernel
theorem dX10_cut_22 : decode cX10_cut 22 = .ok (.aload_n 0, 1) := by decide +kernel
theorem dX10_cut_23 : decode cX10_cut 23 = .ok (.iload_n 1, 1) := by decide +kernel
theorem dX10_cut_24 : decode cX10_cut 24 = .ok (.invokevirtual 272, 3) := by decide +kernel
theorem dX10_cut_27 : decode cX10_cut 27 = .ok (.ifCond .ne 6, 3) := by decide +kernel
theorem dX10_cut_30 : decode cX10_cut 30 = .ok (.bipush (-2), 2) := by decide +kernel
theorem dX10_cut_32 : decode cX10_cut 32 = .ok (.ireturn, 1) := by decide +kernel
theorem dX10_cut_33 : decode cX10_cut 33 = .ok (.aload_n 0, 1) := by decide +kernel
theorem dX10_cut_34 : decode cX10_cut 34 = .ok (.getfield 56, 3) := by decide +kernel
theorem dX10_cut_37 : decode cX10_cut 37 = .ok (.aload_n 0, 1) := by decide +kernel
theorem dX10_cut_38 : decode cX10_cut 38 = .ok (.invokevirtual 218, 3) := by decide +kernel
theorem dX10_cut_41 : decode cX10_cut 41 = .ok (.iload_n 1, 1) := by decide +kernel
theorem dX10_cut_42 : decode cX10_cut 42 = .ok (.invokestatic 275, 3) := by decide +kernel
theorem dX10_cut_45 : decode cX10_cut 45 = .ok (.istore_n 3, 1) := by decide +kernel
theorem dX10_cut_46 : decode cX10_cut 46 = .ok (.iload_n 3, 1) := by decide +kernel
theorem dX10_cut_47 : decode cX10_cut 47 = .ok (.ifCond .ne 6, 3) := by decide +kernel
theorem dX10_cut_50 : decode cX10_cut 50 = .ok (.bipush (-4), 2) := by decide +kernel
theorem dX10_cut_52 : decode cX10_cut 52 = .ok (.ireturn, 1) := by decide +kernel
theorem dX10_cut_53 : decode cX10_cut 53 = .ok (.iload_n 2, 1) := by decide +kernel
theorem dX10_cut_54 : decode cX10_cut 54 = .ok (.ifCond .ne 10, 3) := by decide +kernel
theorem dX10_cut_57 : decode cX10_cut 57 = .ok (.iload_n 3, 1) := by decide +kernel
theorem dX10_cut_58 : decode cX10_cut 58 = .ok (.invokestatic 281, 3) := by decide +kernel
theorem dX10_cut_61 : decode cX10_cut 61 = .ok (.goto 4, 3) := by decide +kernel
theorem dX10_cut_64 : decode cX10_cut 64 = .ok (.iload_n 3, 1) := by decide +kernel
theorem dX10_cut_65 : decode cX10_cut 65 = .ok (.ireturn, 1) := by decide +kernel
theorem dX10_need_0 : decode cX10_need 0 = .ok (.aload_n 0, 1) := by decide +kernel
theorem dX10_need_1 : decode cX10_need 1 = .ok (.getfield 56, 3) := by decide +kernel
theorem dX10_need_4 : decode cX10_need 4 = .ok (.iload_n 1, 1) := by decide +kernel
theorem dX10_need_5 : decode cX10_need 5 = .ok (.invokevirtual 100, 3) := by decide +kernel
theorem dX10_need_8 : decode cX10_need 8 = .ok (.ifCond .eq 12, 3) := by decide +kernel
theorem dX10_need_11 : decode cX10_need 11 = .ok (.iload_n 2, 1) := by decide +kernel
theorem dX10_need_12 : decode cX10_need 12 = .ok (.ifCond .lt 8, 3) := by decide +kernel
theorem dX10_need_15 : decode cX10_need 15 = .ok (.iload_n 2, 1) := by decide +kernel
theorem dX10_need_16 : decode cX10_need 16 = .ok (.iconst 1, 1) := by decide +kernel
theorem dX10_need_17 : decode cX10_need 17 = .ok (.if_icmp .le 5, 3) := by decide +kernel
theorem dX10_need_20 : decode cX10_need 20 = .ok (.iconst (-1), 1) := by decide +kernel
theorem dX10_need_21 : decode cX10_need 21 = .ok (.ireturn, 1) := by decide +kernel
theorem dX10_need_22 : decode cX10_need 22 = .ok (.aload_n 0, 1) := by decide +kernel
theorem dX10_need_23 : decode cX10_need 23 = .ok (.iload_n 1, 1) := by decide +kernel
theorem dX10_need_24 : decode cX10_need 24 = .ok (.invokevirtual 272, 3) := by decide +kernel
theorem dX10_need_27 : decode cX10_need 27 = .ok (.ifCond .ne 6, 3) := by decide +kernel
theorem dX10_need_30 : decode cX10_need 30 = .ok (.bipush (-2), 2) := by decide +kernel
theorem dX10_need_32 : decode cX10_need 32 = .ok (.ireturn, 1) := by decide +kernel
theorem dX10_need_33 : decode cX10_need 33 = .ok (.aload_n 0, 1) := by decide +kernel
theorem dX10_need_34 : decode cX10_need 34 = .ok (.getfield 56, 3) := by decide +kernel
theorem dX10_need_37 : decode cX10_need 37 = .ok (.aload_n 0, 1) := by decide +kernel
theorem dX10_need_38 : decode cX10_need 38 = .ok (.invokevirtual 218, 3) := by decide +kernel
theorem dX10_need_41 : decode cX10_need 41 = .ok (.iload_n 1, 1) := by decide +kernel
theorem dX10_need_42 : decode cX10_need 42 = .ok (.invokestatic 286, 3) := by decide +kernel
theorem dX10_need_45 : decode cX10_need 45 = .ok (.istore_n 3, 1) := by decide +kernel
theorem dX10_need_46 : decode cX10_need 46 = .ok (.iload_n 2, 1) := by decide +kernel
theorem dX10_need_47 : decode cX10_need 47 = .ok (.ifCond .ne 10, 3) := by decide +kernel
theorem dX10_need_50 : decode cX10_need 50 = .ok (.iload_n 3, 1) := by decide +kernel
theorem dX10_need_51 : decode cX10_need 51 = .ok (.invokestatic 281, 3) := by decide +kernel
theorem dX10_need_54 : decode cX10_need 54 = .ok (.goto 4, 3) := by decide +kernel
theorem dX10_need_57 : decode cX10_need 57 = .ok (.iload_n 3, 1) := by decide +kernel
theorem dX10_need_58 : decode cX10_need 58 = .ok (.ireturn, 1) := by decide +kernel
theorem dX10_must_0 : decode cX10_must 0 = .ok (.aload_n 0, 1) := by decide +kernel
theorem dX10_must_1 : decode cX10_must 1 = .ok (.getfield 56, 3) := by decide +kernel
theorem dX10_must_4 : decode cX10_must 4 = .ok (.iload_n 1, 1) := by decide +kernel
theorem dX10_must_5 : decode cX10_must 5 = .ok (.invokevirtual 100, 3) := by decide +kernel
theorem dX10_must_8 : decode cX10_must 8 = .ok (.ifCond .ne 5, 3) := by decide +kernel
theorem dX10_must_11 : decode cX10_must 11 = .ok (.iconst (-1), 1) := by decide +kernel
theorem dX10_must_12 : decode cX10_must 12 = .ok (.ireturn, 1) := by decide +kernel
theorem dX10_must_13 : decode cX10_must 13 = .ok (.aload_n 0, 1) := by decide +kernel
theorem dX10_must_14 : decode cX10_must 14 = .ok (.iload_n 1, 1) := by decide +kernel
theorem dX10_must_15 : decode cX10_must 15 = .ok (.invokevirtual 272, 3) := by decide +kernel
theorem dX10_must_18 : decode cX10_must 18 = .ok (.ifCond .ne 6, 3) := by decide +kernel
theorem dX10_must_21 : decode cX10_must 21 = .ok (.bipush (-2), 2) := by decide +kernel
theorem dX10_must_23 : decode cX10_must 23 = .ok (.ireturn, 1) := by decide +kernel
theorem dX10_must_24 : decode cX10_must 24 = .ok (.aload_n 0, 1) := by decide +kernel
theorem dX10_must_25 : decode cX10_must 25 = .ok (.getfield 56, 3) := by decide +kernel
theorem dX10_must_28 : decode cX10_must 28 = .ok (.aload_n 0, 1) := by decide +kernel
theorem dX10_must_29 : decode cX10_must 29 = .ok (.invokevirtual 218, 3) := by decide +kernel
theorem dX10_must_32 : decode cX10_must 32 = .ok (.iload_n 1, 1) := by decide +kernel
theorem dX10_must_33 : decode cX10_must 33 = .ok (.invokestatic 289, 3) := by decide +kernel
theorem dX10_must_36 : decode cX10_must 36 = .ok (.ireturn, 1) := by decide +kernel
theorem dX10_seen_0 : decode cX10_seen 0 = .ok (.iload_n 1, 1) := by decide +kernel
theorem dX10_seen_1 : decode cX10_seen 1 = .ok (.aload_n 0, 1) := by decide +kernel
theorem dX10_seen_2 : decode cX10_seen 2 = .ok (.getfield 56, 3) := by decide +kernel
theorem dX10_seen_5 : decode cX10_seen 5 = .ok (.invokevirtual 120, 3) := by decide +kernel
theorem dX10_seen_8 : decode cX10_seen 8 = .ok (.iconst (-1), 1) := by decide +kernel
theorem dX10_seen_9 : decode cX10_seen 9 = .ok (.ixor, 1) := by decide +kernel
theorem dX10_seen_10 : decode cX10_seen 10 = .ok (.iand, 1) := by decide +kernel
theorem dX10_seen_11 : decode cX10_seen 11 = .ok (.ifCond .eq 5, 3) := by decide +kernel
theorem dX10_seen_14 : decode cX10_seen 14 = .ok (.iconst (-1), 1) := by decide +kernel
theorem dX10_seen_15 : decode cX10_seen 15 = .ok (.ireturn, 1) := by decide +kernel
theorem dX10_seen_16 : decode cX10_seen 16 = .ok (.aload_n 0, 1) := by decide +kernel
theorem dX10_seen_17 : decode cX10_seen 17 = .ok (.getfield 56, 3) := by decide +kernel
theorem dX10_seen_20 : decode cX10_seen 20 = .ok (.iload_n 1, 1) := by decide +kernel
theorem dX10_seen_21 : decode cX10_seen 21 = .ok (.invokestatic 292, 3) := by decide +kernel
theorem dX10_seen_24 : decode cX10_seen 24 = .ok (.ireturn, 1) := by decide +kernel
theorem dX10_sheet_0 : decode cX10_sheet 0 = .ok (.iload_n 1, 1) := by decide +kernel
theorem dX10_sheet_1 : decode cX10_sheet 1 = .ok (.invokestatic 295, 3) := by decide +kernel
theorem dX10_sheet_4 : decode cX10_sheet 4 = .ok (.ifCond .eq 16, 3) := by decide +kernel
theorem dX10_sheet_7 : decode cX10_sheet 7 = .ok (.iload_n 2, 1) := by decide +kernel
theorem dX10_sheet_8 : decode cX10_sheet 8 = .ok (.invokestatic 298, 3) := by decide +kernel
theorem dX10_sheet_11 : decode cX10_sheet 11 = .ok (.ifCond .eq 9, 3) := by decide +kernel
theorem dX10_sheet_14 : decode cX10_sheet 14 = .ok (.iload_n 3, 1) := by decide +kernel
theorem dX10_sheet_15 : decode cX10_sheet 15 = .ok (.bipush 40, 2) := by decide +kernel
theorem dX10_sheet_17 : decode cX10_sheet 17 = .ok (.if_icmp .le 5, 3) := by decide +kernel
theorem dX10_sheet_20 : decode cX10_sheet 20 = .ok (.iconst (-1), 1) := by decide +kernel
theorem dX10_sheet_21 : decode cX10_sheet 21 = .ok (.ireturn, 1) := by decide +kernel
theorem dX10_sheet_22 : decode cX10_sheet 22 = .ok (.iload_n 3, 1) := by decide +kernel
theorem dX10_sheet_23 : decode cX10_sheet 23 = .ok (.ifCond .ge 6, 3) := by decide +kernel
theorem dX10_sheet_26 : decode cX10_sheet 26 = .ok (.bipush (-14), 2) := by decide +kernel
theorem dX10_sheet_28 : decode cX10_sheet 28 = .ok (.ireturn, 1) := by decide +kernel
theorem dX10_sheet_29 : decode cX10_sheet 29 = .ok (.aload_n 0, 1) := by decide +kernel
theorem dX10_sheet_30 : decode cX10_sheet 30 = .ok (.getfield 49, 3) := by decide +kernel
theorem dX10_sheet_33 : decode cX10_sheet 33 = .ok (.iload_n 1, 1) := by decide +kernel
theorem dX10_sheet_34 : decode cX10_sheet 34 = .ok (.iload_n 2, 1) := by decide +kernel
theorem dX10_sheet_35 : decode cX10_sheet 35 = .ok (.iload_n 3, 1) := by decide +kernel
theorem dX10_sheet_36 : decode cX10_sheet 36 = .ok (.invokevirtual 301, 3) := by decide +kernel
theorem dX10_sheet_39 : decode cX10_sheet 39 = .ok (.iconst 1, 1) := by decide +kernel
theorem dX10_sheet_40 : decode cX10_sheet 40 = .ok (.ireturn, 1) := by decide +kernel
theorem dX10_lay_0 : decode cX10_lay 0 = .ok (.iload_n 1, 1) := by decide +kernel
theorem dX10_lay_1 : decode cX10_lay 1 = .ok (.invokestatic 295, 3) := by decide +kernel
theorem dX10_lay_4 : decode cX10_lay 4 = .ok (.ifCond .ne 5, 3) := by decide +kernel
theorem dX10_lay_7 : decode cX10_lay 7 = .ok (.iconst (-1), 1) := by decide +kernel
theorem dX10_lay_8 : decode cX10_lay 8 = .ok (.ireturn, 1) := by decide +kernel
theorem dX10_lay_9 : decode cX10_lay 9 = .ok (.aload_n 0, 1) := by decide +kernel
theorem dX10_lay_10 : decode cX10_lay 10 = .ok (.getfield 49, 3) := by decide +kernel
theorem dX10_lay_13 : decode cX10_lay 13 = .ok (.getfield 305, 3) := by decide +kernel
theorem dX10_lay_16 : decode cX10_lay 16 = .ok (.iload_n 1, 1) := by decide +kernel
theorem dX10_lay_17 : decode cX10_lay 17 = .ok (.iaload, 1) := by decide +kernel
theorem dX10_lay_18 : decode cX10_lay 18 = .ok (.bipush (-4), 2) := by decide +kernel
theorem dX10_lay_20 : decode cX10_lay 20 = .ok (.if_icmp .ne 6, 3) := by decide +kernel
theorem dX10_lay_23 : decode cX10_lay 23 = .ok (.bipush (-11), 2) := by decide +kernel
theorem dX10_lay_25 : decode cX10_lay 25 = .ok (.ireturn, 1) := by decide +kernel
theorem dX10_lay_26 : decode cX10_lay 26 = .ok (.iload_n 2, 1) := by decide +kernel
theorem dX10_lay_27 : decode cX10_lay 27 = .ok (.ifCond .lt 16, 3) := by decide +kernel
theorem dX10_lay_30 : decode cX10_lay 30 = .ok (.iload_n 2, 1) := by decide +kernel
theorem dX10_lay_31 : decode cX10_lay 31 = .ok (.aload_n 0, 1) := by decide +kernel
theorem dX10_lay_32 : decode cX10_lay 32 = .ok (.getfield 49, 3) := by decide +kernel
theorem dX10_lay_35 : decode cX10_lay 35 = .ok (.getfield 305, 3) := by decide +kernel
theorem dX10_lay_38 : decode cX10_lay 38 = .ok (.iload_n 1, 1) := by decide +kernel
theorem dX10_lay_39 : decode cX10_lay 39 = .ok (.iaload, 1) := by decide +kernel
theorem dX10_lay_40 : decode cX10_lay 40 = .ok (.if_icmp .lt 6, 3) := by decide +kernel
theorem dX10_lay_43 : decode cX10_lay 43 = .ok (.bipush (-12), 2) := by decide +kernel
theorem dX10_lay_45 : decode cX10_lay 45 = .ok (.ireturn, 1) := by decide +kernel
theorem dX10_lay_46 : decode cX10_lay 46 = .ok (.aload_n 0, 1) := by decide +kernel
theorem dX10_lay_47 : decode cX10_lay 47 = .ok (.getfield 49, 3) := by decide +kernel
theorem dX10_lay_50 : decode cX10_lay 50 = .ok (.iload_n 1, 1) := by decide +kernel
theorem dX10_lay_51 : decode cX10_lay 51 = .ok (.iload_n 2, 1) := by decide +kernel
theorem dX10_lay_52 : decode cX10_lay 52 = .ok (.iload_n 3, 1) := by decide +kernel
theorem dX10_lay_53 : decode cX10_lay 53 = .ok (.invokevirtual 308, 3) := by decide +kernel
theorem dX10_lay_56 : decode cX10_lay 56 = .ok (.iconst 1, 1) := by decide +kernel
theorem dX10_lay_57 : decode cX10_lay 57 = .ok (.ireturn, 1) := by decide +kernel
theorem dX10_measured_0 : decode cX10_measured 0 = .ok (.iload_n 1, 1) := by decide +kernel
theorem dX10_measured_1 : decode cX10_measured 1 = .ok (.invokestatic 295, 3) := by decide +kernel
theorem dX10_measured_4 : decode cX10_measured 4 = .ok (.ifCond .eq 10, 3) := by decide +kernel
theorem dX10_measured_7 : decode cX10_measured 7 = .ok (.iload_n 2, 1) := by decide +kernel
theorem dX10_measured_8 : decode cX10_measured 8 = .ok (.invokestatic 298, 3) := by decide +kernel
theorem dX10_measured_11 : decode cX10_measured 11 = .ok (.ifCond .ne 5, 3) := by decide +kernel
theorem dX10_measured_14 : decode cX10_measured 14 = .ok (.iconst (-1), 1) := by decide +kernel
theorem dX10_measured_15 : decode cX10_measured 15 = .ok (.ireturn, 1) := by decide +kernel
theorem dX10_measured_16 : decode cX10_measured 16 = .ok (.iload 4, 2) := by decide +kernel
theorem dX10_measured_18 : decode cX10_measured 18 = .ok (.ifCond .lt 21, 3) := by decide +kernel
theorem dX10_measured_21 : decode cX10_measured 21 = .ok (.iload 4, 2) := by decide +kernel
theorem dX10_measured_23 : decode cX10_measured 23 = .ok (.bipush 40, 2) := by decide +kernel
theorem dX10_measured_25 : decode cX10_measured 25 = .ok (.if_icmp .gt 14, 3) := by decide +kernel
theorem dX10_measured_28 : decode cX10_measured 28 = .ok (.iload 5, 2) := by decide +kernel
theorem dX10_measured_30 : decode cX10_measured 30 = .ok (.ifCond .lt 9, 3) := by decide +kernel
theorem dX10_measured_33 : decode cX10_measured 33 = .ok (.iload 5, 2) := by decide +kernel
theorem dX10_measured_35 : decode cX10_measured 35 = .ok (.iconst 2, 1) := by decide +kernel
theorem dX10_measured_36 : decode cX10_measured 36 = .ok (.if_icmp .le 5, 3) := by decide +kernel
theorem dX10_measured_39 : decode cX10_measured 39 = .ok (.iconst (-1), 1) := by decide +kernel
theorem dX10_measured_40 : decode cX10_measured 40 = .ok (.ireturn, 1) := by decide +kernel
theorem dX10_measured_41 : decode cX10_measured 41 = .ok (.aload_n 0, 1) := by decide +kernel
theorem dX10_measured_42 : decode cX10_measured 42 = .ok (.getfield 49, 3) := by decide +kernel
theorem dX10_measured_45 : decode cX10_measured 45 = .ok (.getfield 305, 3) := by decide +kernel
theorem dX10_measured_48 : decode cX10_measured 48 = .ok (.iload_n 1, 1) := by decide +kernel
theorem dX10_measured_49 : decode cX10_measured 49 = .ok (.iaload, 1) := by decide +kernel
theorem dX10_measured_50 : decode cX10_measured 50 = .ok (.bipush (-4), 2) := by decide +kernel
theorem dX10_measured_52 : decode cX10_measured 52 = .ok (.if_icmp .ne 6, 3) := by decide +kernel
theorem dX10_measured_55 : decode cX10_measured 55 = .ok (.bipush (-11), 2) := by decide +kernel
theorem dX10_measured_57 : decode cX10_measured 57 = .ok (.ireturn, 1) := by decide +kernel
theorem dX10_measured_58 : decode cX10_measured 58 = .ok (.aload_n 0, 1) := by decide +kernel
theorem dX10_measured_59 : decode cX10_measured 59 = .ok (.getfield 49, 3) := by decide +kernel
theorem dX10_measured_62 : decode cX10_measured 62 = .ok (.getfield 311, 3) := by decide +kernel
theorem dX10_measured_65 : decode cX10_measured 65 = .ok (.iload_n 1, 1) := by decide +kernel
theorem dX10_measured_66 : decode cX10_measured 66 = .ok (.iaload, 1) := by decide +kernel
theorem dX10_measured_67 : decode cX10_measured 67 = .ok (.iload_n 2, 1) := by decide +kernel
theorem dX10_measured_68 : decode cX10_measured 68 = .ok (.if_icmp .eq 6, 3) := by decide +kernel
theorem dX10_measured_71 : decode cX10_measured 71 = .ok (.bipush (-13), 2) := by decide +kernel
theorem dX10_measured_73 : decode cX10_measured 73 = .ok (.ireturn, 1) := by decide +kernel
theorem dX10_measured_74 : decode cX10_measured 74 = .ok (.aload_n 0, 1) := by decide +kernel
theorem dX10_measured_75 : decode cX10_measured 75 = .ok (.invokevirtual 208, 3) := by decide +kernel
theorem dX10_measured_78 : decode cX10_measured 78 = .ok (.aload_n 0, 1) := by decide +kernel
theorem dX10_measured_79 : decode cX10_measured 79 = .ok (.iload_n 1, 1) := by decide +kernel
theorem dX10_measured_80 : decode cX10_measured 80 = .ok (.iload_n 3, 1) := by decide +kernel
theorem dX10_measured_81 : decode cX10_measured 81 = .ok (.iload 4, 2) := by decide +kernel
theorem dX10_measured_83 : decode cX10_measured 83 = .ok (.iload 5, 2) := by decide +kernel
theorem dX10_measured_85 : decode cX10_measured 85 = .ok (.invokevirtual 314, 3) := by decide +kernel
theorem dX10_measured_88 : decode cX10_measured 88 = .ok (.ireturn, 1) := by decide +kernel
theorem dX10_count_0 : decode cX10_count 0 = .ok (.iload_n 1, 1) := by decide +kernel
theorem dX10_count_1 : decode cX10_count 1 = .ok (.tableswitch 113 0 5 #[39, 47, 58, 69, 95, 103], 39) := by decide +kernel
theorem dX10_count_40 : decode cX10_count 40 = .ok (.aload_n 0, 1) := by decide +kernel
theorem dX10_count_41 : decode cX10_count 41 = .ok (.getfield 56, 3) := by decide +kernel
theorem dX10_count_44 : decode cX10_count 44 = .ok (.getfield 117, 3) := by decide +kernel
theorem dX10_count_47 : decode cX10_count 47 = .ok (.ireturn, 1) := by decide +kernel
theorem dX10_count_48 : decode cX10_count 48 = .ok (.aload_n 0, 1) := by decide +kernel
theorem dX10_count_49 : decode cX10_count 49 = .ok (.getfield 19, 3) := by decide +kernel
theorem dX10_count_52 : decode cX10_count 52 = .ok (.getfield 147, 3) := by decide +kernel
theorem dX10_count_55 : decode cX10_count 55 = .ok (.invokestatic 281, 3) := by decide +kernel
theorem dX10_count_58 : decode cX10_count 58 = .ok (.ireturn, 1) := by decide +kernel
theorem dX10_count_59 : decode cX10_count 59 = .ok (.aload_n 0, 1) := by decide +kernel
theorem dX10_count_60 : decode cX10_count 60 = .ok (.getfield 19, 3) := by decide +kernel
theorem dX10_count_63 : decode cX10_count 63 = .ok (.getfield 187, 3) := by decide +kernel
theorem dX10_count_66 : decode cX10_count 66 = .ok (.getfield 191, 3) := by decide +kernel
theorem dX10_count_69 : decode cX10_count 69 = .ok (.ireturn, 1) := by decide +kernel
theorem dX10_count_70 : decode cX10_count 70 = .ok (.aload_n 0, 1) := by decide +kernel
theorem dX10_count_71 : decode cX10_count 71 = .ok (.getfield 56, 3) := by decide +kernel
theorem dX10_count_74 : decode cX10_count 74 = .ok (.invokevirtual 230, 3) := by decide +kernel
theorem dX10_count_77 : decode cX10_count 77 = .ok (.sipush 20000, 3) := by decide +kernel
theorem dX10_count_80 : decode cX10_count 80 = .ok (.if_icmp .le 8, 3) := by decide +kernel
theorem dX10_count_83 : decode cX10_count 83 = .ok (.bipush (-6), 2) := by decide +kernel
theorem dX10_count_85 : decode cX10_count 85 = .ok (.goto 10, 3) := by decide +kernel
theorem dX10_count_88 : decode cX10_count 88 = .ok (.aload_n 0, 1) := by decide +kernel
theorem dX10_count_89 : decode cX10_count 89 = .ok (.getfield 56, 3) := by decide +kernel
theorem dX10_count_92 : decode cX10_count 92 = .ok (.invokevirtual 230, 3) := by decide +kernel
theorem dX10_count_95 : decode cX10_count 95 = .ok (.ireturn, 1) := by decide +kernel
theorem dX10_count_96 : decode cX10_count 96 = .ok (.aload_n 0, 1) := by decide +kernel
theorem dX10_count_97 : decode cX10_count 97 = .ok (.getfield 10, 3) := by decide +kernel
theorem dX10_count_100 : decode cX10_count 100 = .ok (.getfield 80, 3) := by decide +kernel
theorem dX10_count_103 : decode cX10_count 103 = .ok (.ireturn, 1) := by decide +kernel
theorem dX10_count_104 : decode cX10_count 104 = .ok (.aload_n 0, 1) := by decide +kernel
theorem dX10_count_105 : decode cX10_count 105 = .ok (.getfield 49, 3) := by decide +kernel
theorem dX10_count_108 : decode cX10_count 108 = .ok (.getfield 305, 3) := by decide +kernel
theorem dX10_count_111 : decode cX10_count 111 = .ok (.iconst 0, 1) := by decide +kernel
theorem dX10_count_112 : decode cX10_count 112 = .ok (.iaload, 1) := by decide +kernel
theorem dX10_count_113 : decode cX10_count 113 = .ok (.ireturn, 1) := by decide +kernel
theorem dX10_count_114 : decode cX10_count 114 = .ok (.iconst (-1), 1) := by decide +kernel
theorem dX10_count_115 : decode cX10_count 115 = .ok (.ireturn, 1) := by decide +kernel
theorem dX10_asNumber_0 : decode cX10_asNumber 0 = .ok (.iload_n 0, 1) := by decide +kernel
theorem dX10_asNumber_1 : decode cX10_asNumber 1 = .ok (.ifCond .eq 7, 3) := by decide +kernel
theorem dX10_asNumber_4 : decode cX10_asNumber 4 = .ok (.iconst 1, 1) := by decide +kernel
theorem dX10_asNumber_5 : decode cX10_asNumber 5 = .ok (.goto 4, 3) := by decide +kernel
theorem dX10_asNumber_8 : decode cX10_asNumber 8 = .ok (.iconst 0, 1) := by decide +kernel
theorem dX10_asNumber_9 : decode cX10_asNumber 9 = .ok (.ireturn, 1) := by decide +kernel
theorem dX10_alive_0 : decode cX10_alive 0 = .ok (.aload_n 0, 1) := by decide +kernel
theorem dX10_alive_1 : decode cX10_alive 1 = .ok (.getfield 56, 3) := by decide +kernel
theorem dX10_alive_4 : decode cX10_alive 4 = .ok (.invokevirtual 120, 3) := by decide +kernel
theorem dX10_alive_7 : decode cX10_alive 7 = .ok (.aload_n 0, 1) := by decide +kernel
theorem dX10_alive_8 : decode cX10_alive 8 = .ok (.getfield 19, 3) := by decide +kernel
theorem dX10_alive_11 : decode cX10_alive 11 = .ok (.getfield 147, 3) := by decide +kernel
theorem dX10_alive_14 : decode cX10_alive 14 = .ok (.iconst (-1), 1) := by decide +kernel
theorem dX10_alive_15 : decode cX10_alive 15 = .ok (.ixor, 1) := by decide +kernel
theorem dX10_alive_16 : decode cX10_alive 16 = .ok (.iand, 1) := by decide +kernel
theorem dX10_alive_17 : decode cX10_alive 17 = .ok (.ireturn, 1) := by decide +kernel
theorem dX10_canBeUp_0 : decode cX10_canBeUp 0 = .ok (.aload_n 0, 1) := by decide +kernel
theorem dX10_canBeUp_1 : decode cX10_canBeUp 1 = .ok (.getfield 56, 3) := by decide +kernel
theorem dX10_canBeUp_4 : decode cX10_canBeUp 4 = .ok (.aload_n 0, 1) := by decide +kernel
theorem dX10_canBeUp_5 : decode cX10_canBeUp 5 = .ok (.invokevirtual 218, 3) := by decide +kernel
theorem dX10_canBeUp_8 : decode cX10_canBeUp 8 = .ok (.invokevirtual 205, 3) := by decide +kernel
theorem dX10_canBeUp_11 : decode cX10_canBeUp 11 = .ok (.iload_n 1, 1) := by decide +kernel
theorem dX10_canBeUp_12 : decode cX10_canBeUp 12 = .ok (.ishr, 1) := by decide +kernel
theorem dX10_canBeUp_13 : decode cX10_canBeUp 13 = .ok (.iconst 1, 1) := by decide +kernel
theorem dX10_canBeUp_14 : decode cX10_canBeUp 14 = .ok (.iand, 1) := by decide +kernel
theorem dX10_canBeUp_15 : decode cX10_canBeUp 15 = .ok (.iconst 1, 1) := by decide +kernel
theorem dX10_canBeUp_16 : decode cX10_canBeUp 16 = .ok (.if_icmp .ne 7, 3) := by decide +kernel
theorem dX10_canBeUp_19 : decode cX10_canBeUp 19 = .ok (.iconst 1, 1) := by decide +kernel
theorem dX10_canBeUp_20 : decode cX10_canBeUp 20 = .ok (.goto 4, 3) := by decide +kernel
theorem dX10_canBeUp_23 : decode cX10_canBeUp 23 = .ok (.iconst 0, 1) := by decide +kernel
theorem dX10_canBeUp_24 : decode cX10_canBeUp 24 = .ok (.ireturn, 1) := by decide +kernel
theorem dX10_followTimes_0 : decode cX10_followTimes 0 = .ok (.aload_n 0, 1) := by decide +kernel
theorem dX10_followTimes_1 : decode cX10_followTimes 1 = .ok (.getfield 26, 3) := by decide +kernel
theorem dX10_followTimes_4 : decode cX10_followTimes 4 = .ok (.aload_n 0, 1) := by decide +kernel
theorem dX10_followTimes_5 : decode cX10_followTimes 5 = .ok (.getfield 56, 3) := by decide +kernel
theorem dX10_followTimes_8 : decode cX10_followTimes 8 = .ok (.invokevirtual 211, 3) := by decide +kernel
theorem dX10_followTimes_11 : decode cX10_followTimes 11 = .ok (.aload_n 0, 1) := by decide +kernel
theorem dX10_followTimes_12 : decode cX10_followTimes 12 = .ok (.getfield 26, 3) := by decide +kernel
theorem dX10_followTimes_15 : decode cX10_followTimes 15 = .ok (.aload_n 0, 1) := by decide +kernel
theorem dX10_followTimes_16 : decode cX10_followTimes 16 = .ok (.getfield 19, 3) := by decide +kernel
theorem dX10_followTimes_19 : decode cX10_followTimes 19 = .ok (.getfield 150, 3) := by decide +kernel
theorem dX10_followTimes_22 : decode cX10_followTimes 22 = .ok (.invokevirtual 318, 3) := by decide +kernel
theorem dX10_followTimes_25 : decode cX10_followTimes 25 = .ok (.aload_n 0, 1) := by decide +kernel
theorem dX10_followTimes_26 : decode cX10_followTimes 26 = .ok (.getfield 26, 3) := by decide +kernel
theorem dX10_followTimes_29 : decode cX10_followTimes 29 = .ok (.aload_n 0, 1) := by decide +kernel
theorem dX10_followTimes_30 : decode cX10_followTimes 30 = .ok (.getfield 56, 3) := by decide +kernel
theorem dX10_followTimes_33 : decode cX10_followTimes 33 = .ok (.aload_n 0, 1) := by decide +kernel
theorem dX10_followTimes_34 : decode cX10_followTimes 34 = .ok (.invokevirtual 218, 3) := by decide +kernel
theorem dX10_followTimes_37 : decode cX10_followTimes 37 = .ok (.invokevirtual 221, 3) := by decide +kernel
theorem dX10_followTimes_40 : decode cX10_followTimes 40 = .ok (.return_, 1) := by decide +kernel
theorem dX10_forgetReckoned_0 : decode cX10_forgetReckoned 0 = .ok (.aload_n 0, 1) := by decide +kernel
theorem dX10_forgetReckoned_1 : decode cX10_forgetReckoned 1 = .ok (.getfield 35, 3) := by decide +kernel
theorem dX10_forgetReckoned_4 : decode cX10_forgetReckoned 4 = .ok (.invokevirtual 321, 3) := by decide +kernel
theorem dX10_forgetReckoned_7 : decode cX10_forgetReckoned 7 = .ok (.aload_n 0, 1) := by decide +kernel
theorem dX10_forgetReckoned_8 : decode cX10_forgetReckoned 8 = .ok (.getfield 42, 3) := by decide +kernel
theorem dX10_forgetReckoned_11 : decode cX10_forgetReckoned 11 = .ok (.iconst 0, 1) := by decide +kernel
theorem dX10_forgetReckoned_12 : decode cX10_forgetReckoned 12 = .ok (.putfield 324, 3) := by decide +kernel
theorem dX10_forgetReckoned_15 : decode cX10_forgetReckoned 15 = .ok (.return_, 1) := by decide +kernel
theorem dX10_compareSheet_0 : decode cX10_compareSheet 0 = .ok (.iconst 0, 1) := by decide +kernel
theorem dX10_compareSheet_1 : decode cX10_compareSheet 1 = .ok (.istore 5, 2) := by decide +kernel
theorem dX10_compareSheet_3 : decode cX10_compareSheet 3 = .ok (.bipush (-4), 2) := by decide +kernel
theorem dX10_compareSheet_5 : decode cX10_compareSheet 5 = .ok (.istore 6, 2) := by decide +kernel
theorem dX10_compareSheet_7 : decode cX10_compareSheet 7 = .ok (.iconst 0, 1) := by decide +kernel
theorem dX10_compareSheet_8 : decode cX10_compareSheet 8 = .ok (.istore 7, 2) := by decide +kernel
theorem dX10_compareSheet_10 : decode cX10_compareSheet 10 = .ok (.iconst 0, 1) := by decide +kernel
theorem dX10_compareSheet_11 : decode cX10_compareSheet 11 = .ok (.istore 8, 2) := by decide +kernel
theorem dX10_compareSheet_13 : decode cX10_compareSheet 13 = .ok (.iload 8, 2) := by decide +kernel
theorem dX10_compareSheet_15 : decode cX10_compareSheet 15 = .ok (.iload_n 3, 1) := by decide +kernel
theorem dX10_compareSheet_16 : decode cX10_compareSheet 16 = .ok (.if_icmp .ge 120, 3) := by decide +kernel
theorem dX10_compareSheet_19 : decode cX10_compareSheet 19 = .ok (.iload_n 2, 1) := by decide +kernel
theorem dX10_compareSheet_20 : decode cX10_compareSheet 20 = .ok (.iload 8, 2) := by decide +kernel
theorem dX10_compareSheet_22 : decode cX10_compareSheet 22 = .ok (.iadd, 1) := by decide +kernel
theorem dX10_compareSheet_23 : decode cX10_compareSheet 23 = .ok (.istore 9, 2) := by decide +kernel
theorem dX10_compareSheet_25 : decode cX10_compareSheet 25 = .ok (.iload 9, 2) := by decide +kernel
theorem dX10_compareSheet_27 : decode cX10_compareSheet 27 = .ok (.ifCond .lt 17, 3) := by decide +kernel
theorem dX10_compareSheet_30 : decode cX10_compareSheet 30 = .ok (.iload 9, 2) := by decide +kernel
theorem dX10_compareSheet_32 : decode cX10_compareSheet 32 = .ok (.aload_n 0, 1) := by decide +kernel
theorem dX10_compareSheet_33 : decode cX10_compareSheet 33 = .ok (.getfield 49, 3) := by decide +kernel
theorem dX10_compareSheet_36 : decode cX10_compareSheet 36 = .ok (.getfield 305, 3) := by decide +kernel
theorem dX10_compareSheet_39 : decode cX10_compareSheet 39 = .ok (.iload_n 1, 1) := by decide +kernel
theorem dX10_compareSheet_40 : decode cX10_compareSheet 40 = .ok (.iaload, 1) := by decide +kernel
theorem dX10_compareSheet_41 : decode cX10_compareSheet 41 = .ok (.if_icmp .lt 6, 3) := by decide +kernel
theorem dX10_compareSheet_44 : decode cX10_compareSheet 44 = .ok (.bipush (-12), 2) := by decide +kernel
theorem dX10_compareSheet_46 : decode cX10_compareSheet 46 = .ok (.ireturn, 1) := by decide +kernel
theorem dX10_compareSheet_47 : decode cX10_compareSheet 47 = .ok (.aload_n 0, 1) := by decide +kernel
theorem dX10_compareSheet_48 : decode cX10_compareSheet 48 = .ok (.getfield 49, 3) := by decide +kernel
theorem dX10_compareSheet_51 : decode cX10_compareSheet 51 = .ok (.getfield 327, 3) := by decide +kernel
theorem dX10_compareSheet_54 : decode cX10_compareSheet 54 = .ok (.iload_n 1, 1) := by decide +kernel
theorem dX10_compareSheet_55 : decode cX10_compareSheet 55 = .ok (.aaload, 1) := by decide +kernel
theorem dX10_compareSheet_56 : decode cX10_compareSheet 56 = .ok (.iload 9, 2) := by decide +kernel
theorem dX10_compareSheet_58 : decode cX10_compareSheet 58 = .ok (.iaload, 1) := by decide +kernel
theorem dX10_compareSheet_59 : decode cX10_compareSheet 59 = .ok (.istore 10, 2) := by decide +kernel
theorem dX10_compareSheet_61 : decode cX10_compareSheet 61 = .ok (.iload 10, 2) := by decide +kernel
theorem dX10_compareSheet_63 : decode cX10_compareSheet 63 = .ok (.ifCond .lt 11, 3) := by decide +kernel
theorem dX10_compareSheet_66 : decode cX10_compareSheet 66 = .ok (.iload 10, 2) := by decide +kernel
theorem dX10_compareSheet_68 : decode cX10_compareSheet 68 = .ok (.sipush 9999, 3) := by decide +kernel
theorem dX10_compareSheet_71 : decode cX10_compareSheet 71 = .ok (.if_icmp .le 9, 3) := by decide +kernel
theorem dX10_compareSheet_74 : decode cX10_compareSheet 74 = .ok (.bipush (-20), 2) := by decide +kernel
theorem dX10_compareSheet_76 : decode cX10_compareSheet 76 = .ok (.iload 8, 2) := by decide +kernel
theorem dX10_compareSheet_78 : decode cX10_compareSheet 78 = .ok (.isub, 1) := by decide +kernel
theorem dX10_compareSheet_79 : decode cX10_compareSheet 79 = .ok (.ireturn, 1) := by decide +kernel
theorem dX10_compareSheet_80 : decode cX10_compareSheet 80 = .ok (.iload 10, 2) := by decide +kernel
theorem dX10_compareSheet_82 : decode cX10_compareSheet 82 = .ok (.aload_n 0, 1) := by decide +kernel
theorem dX10_compareSheet_83 : decode cX10_compareSheet 83 = .ok (.getfield 26, 3) := by decide +kernel
theorem dX10_compareSheet_86 : decode cX10_compareSheet 86 = .ok (.aload_n 0, 1) := by decide +kernel
theorem dX10_compareSheet_87 : decode cX10_compareSheet 87 = .ok (.getfield 56, 3) := by decide +kernel
theorem dX10_compareSheet_90 : decode cX10_compareSheet 90 = .ok (.iload 8, 2) := by decide +kernel
theorem dX10_compareSheet_92 : decode cX10_compareSheet 92 = .ok (.invokevirtual 237, 3) := by decide +kernel
theorem dX10_compareSheet_95 : decode cX10_compareSheet 95 = .ok (.isub, 1) := by decide +kernel
theorem dX10_compareSheet_96 : decode cX10_compareSheet 96 = .ok (.invokestatic 331, 3) := by decide +kernel
theorem dX10_compareSheet_99 : decode cX10_compareSheet 99 = .ok (.istore 11, 2) := by decide +kernel
theorem dX10_compareSheet_101 : decode cX10_compareSheet 101 = .ok (.iload 7, 2) := by decide +kernel
theorem dX10_compareSheet_103 : decode cX10_compareSheet 103 = .ok (.iload 11, 2) := by decide +kernel
theorem dX10_compareSheet_105 : decode cX10_compareSheet 105 = .ok (.iadd, 1) := by decide +kernel
theorem dX10_compareSheet_106 : decode cX10_compareSheet 106 = .ok (.istore 7, 2) := by decide +kernel
theorem dX10_compareSheet_108 : decode cX10_compareSheet 108 = .ok (.iload 11, 2) := by decide +kernel
theorem dX10_compareSheet_110 : decode cX10_compareSheet 110 = .ok (.ifCond .ne 9, 3) := by decide +kernel
theorem dX10_compareSheet_113 : decode cX10_compareSheet 113 = .ok (.iinc 5 1, 3) := by decide +kernel
theorem dX10_compareSheet_116 : decode cX10_compareSheet 116 = .ok (.goto 14, 3) := by decide +kernel
theorem dX10_compareSheet_119 : decode cX10_compareSheet 119 = .ok (.iload 6, 2) := by decide +kernel
theorem dX10_compareSheet_121 : decode cX10_compareSheet 121 = .ok (.bipush (-4), 2) := by decide +kernel
theorem dX10_compareSheet_123 : decode cX10_compareSheet 123 = .ok (.if_icmp .ne 7, 3) := by decide +kernel
theorem dX10_compareSheet_126 : decode cX10_compareSheet 126 = .ok (.iload 8, 2) := by decide +kernel
theorem dX10_compareSheet_128 : decode cX10_compareSheet 128 = .ok (.istore 6, 2) := by decide +kernel
theorem dX10_compareSheet_130 : decode cX10_compareSheet 130 = .ok (.iinc 8 1, 3) := by decide +kernel
theorem dX10_compareSheet_133 : decode cX10_compareSheet 133 = .ok (.goto (-120), 3) := by decide +kernel
theorem dX10_compareSheet_136 : decode cX10_compareSheet 136 = .ok (.iload 4, 2) := by decide +kernel
theorem dX10_compareSheet_138 : decode cX10_compareSheet 138 = .ok (.ifCond .ne 8, 3) := by decide +kernel
theorem dX10_compareSheet_141 : decode cX10_compareSheet 141 = .ok (.iload 5, 2) := by decide +kernel
theorem dX10_compareSheet_143 : decode cX10_compareSheet 143 = .ok (.goto 16, 3) := by decide +kernel
theorem dX10_compareSheet_146 : decode cX10_compareSheet 146 = .ok (.iload 4, 2) := by decide +kernel
theorem dX10_compareSheet_148 : decode cX10_compareSheet 148 = .ok (.iconst 1, 1) := by decide +kernel
theorem dX10_compareSheet_149 : decode cX10_compareSheet 149 = .ok (.if_icmp .ne 8, 3) := by decide +kernel
theorem dX10_compareSheet_152 : decode cX10_compareSheet 152 = .ok (.iload 6, 2) := by decide +kernel
theorem dX10_compareSheet_154 : decode cX10_compareSheet 154 = .ok (.goto 5, 3) := by decide +kernel
theorem dX10_compareSheet_157 : decode cX10_compareSheet 157 = .ok (.iload 7, 2) := by decide +kernel
theorem dX10_compareSheet_159 : decode cX10_compareSheet 159 = .ok (.ireturn, 1) := by decide +kernel
theorem dL_law_0 : decode cL_law 0 = .ok (.new 7, 3) := by decide +kernel
theorem dL_law_3 : decode cL_law 3 = .ok (.dup, 1) := by decide +kernel
theorem dL_law_4 : decode cL_law 4 = .ok (.invokespecial 9, 3) := by decide +kernel
theorem dL_law_7 : decode cL_law 7 = .ok (.astore_n 1, 1) := by decide +kernel
theorem dL_law_8 : decode cL_law 8 = .ok (.new 10, 3) := by decide +kernel
theorem dL_law_11 : decode cL_law 11 = .ok (.dup, 1) := by decide +kernel
theorem dL_law_12 : decode cL_law 12 = .ok (.invokespecial 12, 3) := by decide +kernel
theorem dL_law_15 : decode cL_law 15 = .ok (.astore_n 2, 1) := by decide +kernel
theorem dL_law_16 : decode cL_law 16 = .ok (.iconst 0, 1) := by decide +kernel
theorem dL_law_17 : decode cL_law 17 = .ok (.istore_n 3, 1) := by decide +kernel
theorem dL_law_18 : decode cL_law 18 = .ok (.iload_n 3, 1) := by decide +kernel
theorem dL_law_19 : decode cL_law 19 = .ok (.aload_n 0, 1) := by decide +kernel
theorem dL_law_20 : decode cL_law 20 = .ok (.arraylength, 1) := by decide +kernel
theorem dL_law_21 : decode cL_law 21 = .ok (.bipush 6, 2) := by decide +kernel
theorem dL_law_23 : decode cL_law 23 = .ok (.isub, 1) := by decide +kernel
theorem dL_law_24 : decode cL_law 24 = .ok (.if_icmp .gt 1099, 3) := by decide +kernel
theorem dL_law_27 : decode cL_law 27 = .ok (.aload_n 0, 1) := by decide +kernel
theorem dL_law_28 : decode cL_law 28 = .ok (.iload_n 3, 1) := by decide +kernel
theorem dL_law_29 : decode cL_law 29 = .ok (.iaload, 1) := by decide +kernel
theorem dL_law_30 : decode cL_law 30 = .ok (.bipush 31, 2) := by decide +kernel
theorem dL_law_32 : decode cL_law 32 = .ok (.iand, 1) := by decide +kernel
theorem dL_law_33 : decode cL_law 33 = .ok (.tableswitch 1084 0 30 #[139, 192, 215, 228, 241, 274, 297, 330, 363, 402, 451, 484, 507, 530, 563, 596, 619, 652, 695, 718, 741, 764, 777, 800, 833, 866, 889, 912, 955, 998, 1061], 139) := by decide +kernel
theorem dL_law_172 : decode cL_law 172 = .ok (.aload_n 1, 1) := by decide +kernel
theorem dL_law_173 : decode cL_law 173 = .ok (.aload_n 0, 1) := by decide +kernel
theorem dL_law_174 : decode cL_law 174 = .ok (.iload_n 3, 1) := by decide +kernel
theorem dL_law_175 : decode cL_law 175 = .ok (.iconst 1, 1) := by decide +kernel
theorem dL_law_176 : decode cL_law 176 = .ok (.iadd, 1) := by decide +kernel
theorem dL_law_177 : decode cL_law 177 = .ok (.iaload, 1) := by decide +kernel
theorem dL_law_178 : decode cL_law 178 = .ok (.i2l, 1) := by decide +kernel
theorem dL_law_179 : decode cL_law 179 = .ok (.bipush 32, 2) := by decide +kernel
theorem dL_law_181 : decode cL_law 181 = .ok (.lshl, 1) := by decide +kernel
theorem dL_law_182 : decode cL_law 182 = .ok (.aload_n 0, 1) := by decide +kernel
theorem dL_law_183 : decode cL_law 183 = .ok (.iload_n 3, 1) := by decide +kernel
theorem dL_law_184 : decode cL_law 184 = .ok (.iconst 2, 1) := by decide +kernel
theorem dL_law_185 : decode cL_law 185 = .ok (.iadd, 1) := by decide +kernel
theorem dL_law_186 : decode cL_law 186 = .ok (.iaload, 1) := by decide +kernel
theorem dL_law_187 : decode cL_law 187 = .ok (.i2l, 1) := by decide +kernel
theorem dL_law_188 : decode cL_law 188 = .ok (.ldc2_w 13, 3) := by decide +kernel
theorem dL_law_191 : decode cL_law 191 = .ok (.land, 1) := by decide +kernel
theorem dL_law_192 : decode cL_law 192 = .ok (.lor, 1) := by decide +kernel
theorem dL_law_193 : decode cL_law 193 = .ok (.invokevirtual 15, 3) := by decide +kernel
theorem dL_law_196 : decode cL_law 196 = .ok (.pop, 1) := by decide +kernel
theorem dL_law_197 : decode cL_law 197 = .ok (.aload_n 2, 1) := by decide +kernel
theorem dL_law_198 : decode cL_law 198 = .ok (.aload_n 0, 1) := by decide +kernel
theorem dL_law_199 : decode cL_law 199 = .ok (.iload_n 3, 1) := by decide +kernel
theorem dL_law_200 : decode cL_law 200 = .ok (.iconst 1, 1) := by decide +kernel
theorem dL_law_201 : decode cL_law 201 = .ok (.iadd, 1) := by decide +kernel
theorem dL_law_202 : decode cL_law 202 = .ok (.iaload, 1) := by decide +kernel
theorem dL_law_203 : decode cL_law 203 = .ok (.i2l, 1) := by decide +kernel
theorem dL_law_204 : decode cL_law 204 = .ok (.bipush 32, 2) := by decide +kernel
theorem dL_law_206 : decode cL_law 206 = .ok (.lshl, 1) := by decide +kernel
theorem dL_law_207 : decode cL_law 207 = .ok (.aload_n 0, 1) := by decide +kernel
theorem dL_law_208 : decode cL_law 208 = .ok (.iload_n 3, 1) := by decide +kernel
theorem dL_law_209 : decode cL_law 209 = .ok (.iconst 2, 1) := by decide +kernel
theorem dL_law_210 : decode cL_law 210 = .ok (.iadd, 1) := by decide +kernel
theorem dL_law_211 : decode cL_law 211 = .ok (.iaload, 1) := by decide +kernel
theorem dL_law_212 : decode cL_law 212 = .ok (.i2l, 1) := by decide +kernel
theorem dL_law_213 : decode cL_law 213 = .ok (.ldc2_w 13, 3) := by decide +kernel
theorem dL_law_216 : decode cL_law 216 = .ok (.land, 1) := by decide +kernel
theorem dL_law_217 : decode cL_law 217 = .ok (.lor, 1) := by decide +kernel
theorem dL_law_218 : decode cL_law 218 = .ok (.invokevirtual 19, 3) := by decide +kernel
theorem dL_law_221 : decode cL_law 221 = .ok (.pop, 1) := by decide +kernel
theorem dL_law_222 : decode cL_law 222 = .ok (.goto 895, 3) := by decide +kernel
theorem dL_law_225 : decode cL_law 225 = .ok (.aload_n 1, 1) := by decide +kernel
theorem dL_law_226 : decode cL_law 226 = .ok (.aload_n 0, 1) := by decide +kernel
theorem dL_law_227 : decode cL_law 227 = .ok (.iload_n 3, 1) := by decide +kernel
theorem dL_law_228 : decode cL_law 228 = .ok (.iconst 1, 1) := by decide +kernel
theorem dL_law_229 : decode cL_law 229 = .ok (.iadd, 1) := by decide +kernel
theorem dL_law_230 : decode cL_law 230 = .ok (.iaload, 1) := by decide +kernel
theorem dL_law_231 : decode cL_law 231 = .ok (.invokevirtual 20, 3) := by decide +kernel
theorem dL_law_234 : decode cL_law 234 = .ok (.pop, 1) := by decide +kernel
theorem dL_law_235 : decode cL_law 235 = .ok (.aload_n 2, 1) := by decide +kernel
theorem dL_law_236 : decode cL_law 236 = .ok (.aload_n 0, 1) := by decide +kernel
theorem dL_law_237 : decode cL_law 237 = .ok (.iload_n 3, 1) := by decide +kernel
theorem dL_law_238 : decode cL_law 238 = .ok (.iconst 1, 1) := by decide +kernel
theorem dL_law_239 : decode cL_law 239 = .ok (.iadd, 1) := by decide +kernel
theorem dL_law_240 : decode cL_law 240 = .ok (.iaload, 1) := by decide +kernel
theorem dL_law_241 : decode cL_law 241 = .ok (.invokevirtual 24, 3) := by decide +kernel
theorem dL_law_244 : decode cL_law 244 = .ok (.pop, 1) := by decide +kernel
theorem dL_law_245 : decode cL_law 245 = .ok (.goto 872, 3) := by decide +kernel
theorem dL_law_248 : decode cL_law 248 = .ok (.aload_n 1, 1) := by decide +kernel
theorem dL_law_249 : decode cL_law 249 = .ok (.invokevirtual 25, 3) := by decide +kernel
theorem dL_law_252 : decode cL_law 252 = .ok (.pop, 1) := by decide +kernel
theorem dL_law_253 : decode cL_law 253 = .ok (.aload_n 2, 1) := by decide +kernel
theorem dL_law_254 : decode cL_law 254 = .ok (.invokevirtual 29, 3) := by decide +kernel
theorem dL_law_257 : decode cL_law 257 = .ok (.pop, 1) := by decide +kernel
theorem dL_law_258 : decode cL_law 258 = .ok (.goto 859, 3) := by decide +kernel
theorem dL_law_261 : decode cL_law 261 = .ok (.aload_n 1, 1) := by decide +kernel
theorem dL_law_262 : decode cL_law 262 = .ok (.invokevirtual 30, 3) := by decide +kernel
theorem dL_law_265 : decode cL_law 265 = .ok (.pop, 1) := by decide +kernel
theorem dL_law_266 : decode cL_law 266 = .ok (.aload_n 2, 1) := by decide +kernel
theorem dL_law_267 : decode cL_law 267 = .ok (.invokevirtual 33, 3) := by decide +kernel
theorem dL_law_270 : decode cL_law 270 = .ok (.pop, 1) := by decide +kernel
theorem dL_law_271 : decode cL_law 271 = .ok (.goto 846, 3) := by decide +kernel
theorem dL_law_274 : decode cL_law 274 = .ok (.aload_n 1, 1) := by decide +kernel
theorem dL_law_275 : decode cL_law 275 = .ok (.aload_n 0, 1) := by decide +kernel
theorem dL_law_276 : decode cL_law 276 = .ok (.iload_n 3, 1) := by decide +kernel
theorem dL_law_277 : decode cL_law 277 = .ok (.iconst 1, 1) := by decide +kernel
theorem dL_law_278 : decode cL_law 278 = .ok (.iadd, 1) := by decide +kernel
theorem dL_law_279 : decode cL_law 279 = .ok (.iaload, 1) := by decide +kernel
theorem dL_law_280 : decode cL_law 280 = .ok (.aload_n 0, 1) := by decide +kernel
theorem dL_law_281 : decode cL_law 281 = .ok (.iload_n 3, 1) := by decide +kernel
theorem dL_law_282 : decode cL_law 282 = .ok (.iconst 2, 1) := by decide +kernel
theorem dL_law_283 : decode cL_law 283 = .ok (.iadd, 1) := by decide +kernel
theorem dL_law_284 : decode cL_law 284 = .ok (.iaload, 1) := by decide +kernel
theorem dL_law_285 : decode cL_law 285 = .ok (.invokevirtual 34, 3) := by decide +kernel
theorem dL_law_288 : decode cL_law 288 = .ok (.aload_n 2, 1) := by decide +kernel
theorem dL_law_289 : decode cL_law 289 = .ok (.aload_n 0, 1) := by decide +kernel
theorem dL_law_290 : decode cL_law 290 = .ok (.iload_n 3, 1) := by decide +kernel
theorem dL_law_291 : decode cL_law 291 = .ok (.iconst 1, 1) := by decide +kernel
theorem dL_law_292 : decode cL_law 292 = .ok (.iadd, 1) := by decide +kernel
theorem dL_law_293 : decode cL_law 293 = .ok (.iaload, 1) := by decide +kernel
theorem dL_law_294 : decode cL_law 294 = .ok (.aload_n 0, 1) := by decide +kernel
theorem dL_law_295 : decode cL_law 295 = .ok (.iload_n 3, 1) := by decide +kernel
theorem dL_law_296 : decode cL_law 296 = .ok (.iconst 2, 1) := by decide +kernel
theorem dL_law_297 : decode cL_law 297 = .ok (.iadd, 1) := by decide +kernel
theorem dL_law_298 : decode cL_law 298 = .ok (.iaload, 1) := by decide +kernel
theorem dL_law_299 : decode cL_law 299 = .ok (.invokevirtual 38, 3) := by decide +kernel
theorem dL_law_302 : decode cL_law 302 = .ok (.if_icmp .eq 815, 3) := by decide +kernel
theorem dL_law_305 : decode cL_law 305 = .ok (.iconst 0, 1) := by decide +kernel
theorem dL_law_306 : decode cL_law 306 = .ok (.ireturn, 1) := by decide +kernel
theorem dL_law_307 : decode cL_law 307 = .ok (.aload_n 1, 1) := by decide +kernel
theorem dL_law_308 : decode cL_law 308 = .ok (.aload_n 0, 1) := by decide +kernel
theorem dL_law_309 : decode cL_law 309 = .ok (.iload_n 3, 1) := by decide +kernel
theorem dL_law_310 : decode cL_law 310 = .ok (.iconst 1, 1) := by decide +kernel
theorem dL_law_311 : decode cL_law 311 = .ok (.iadd, 1) := by decide +kernel
theorem dL_law_312 : decode cL_law 312 = .ok (.iaload, 1) := by decide +kernel
theorem dL_law_313 : decode cL_law 313 = .ok (.invokevirtual 39, 3) := by decide +kernel
theorem dL_law_316 : decode cL_law 316 = .ok (.pop, 1) := by decide +kernel
theorem dL_law_317 : decode cL_law 317 = .ok (.aload_n 2, 1) := by decide +kernel
theorem dL_law_318 : decode cL_law 318 = .ok (.aload_n 0, 1) := by decide +kernel
theorem dL_law_319 : decode cL_law 319 = .ok (.iload_n 3, 1) := by decide +kernel
theorem dL_law_320 : decode cL_law 320 = .ok (.iconst 1, 1) := by decide +kernel
theorem dL_law_321 : decode cL_law 321 = .ok (.iadd, 1) := by decide +kernel
theorem dL_law_322 : decode cL_law 322 = .ok (.iaload, 1) := by decide +kernel
theorem dL_law_323 : decode cL_law 323 = .ok (.invokevirtual 42, 3) := by decide +kernel
theorem dL_law_326 : decode cL_law 326 = .ok (.pop, 1) := by decide +kernel
theorem dL_law_327 : decode cL_law 327 = .ok (.goto 790, 3) := by decide +kernel
theorem dL_law_330 : decode cL_law 330 = .ok (.aload_n 1, 1) := by decide +kernel
theorem dL_law_331 : decode cL_law 331 = .ok (.aload_n 0, 1) := by decide +kernel
theorem dL_law_332 : decode cL_law 332 = .ok (.iload_n 3, 1) := by decide +kernel
theorem dL_law_333 : decode cL_law 333 = .ok (.iconst 1, 1) := by decide +kernel
theorem dL_law_334 : decode cL_law 334 = .ok (.iadd, 1) := by decide +kernel
theorem dL_law_335 : decode cL_law 335 = .ok (.iaload, 1) := by decide +kernel
theorem dL_law_336 : decode cL_law 336 = .ok (.aload_n 0, 1) := by decide +kernel
theorem dL_law_337 : decode cL_law 337 = .ok (.iload_n 3, 1) := by decide +kernel
theorem dL_law_338 : decode cL_law 338 = .ok (.iconst 2, 1) := by decide +kernel
theorem dL_law_339 : decode cL_law 339 = .ok (.iadd, 1) := by decide +kernel
theorem dL_law_340 : decode cL_law 340 = .ok (.iaload, 1) := by decide +kernel
theorem dL_law_341 : decode cL_law 341 = .ok (.invokevirtual 43, 3) := by decide +kernel
theorem dL_law_344 : decode cL_law 344 = .ok (.pop, 1) := by decide +kernel
theorem dL_law_345 : decode cL_law 345 = .ok (.aload_n 2, 1) := by decide +kernel
theorem dL_law_346 : decode cL_law 346 = .ok (.aload_n 0, 1) := by decide +kernel
theorem dL_law_347 : decode cL_law 347 = .ok (.iload_n 3, 1) := by decide +kernel
theorem dL_law_348 : decode cL_law 348 = .ok (.iconst 1, 1) := by decide +kernel
theorem dL_law_349 : decode cL_law 349 = .ok (.iadd, 1) := by decide +kernel
theorem dL_law_350 : decode cL_law 350 = .ok (.iaload, 1) := by decide +kernel
theorem dL_law_351 : decode cL_law 351 = .ok (.aload_n 0, 1) := by decide +kernel
theorem dL_law_352 : decode cL_law 352 = .ok (.iload_n 3, 1) := by decide +kernel
theorem dL_law_353 : decode cL_law 353 = .ok (.iconst 2, 1) := by decide +kernel
theorem dL_law_354 : decode cL_law 354 = .ok (.iadd, 1) := by decide +kernel
theorem dL_law_355 : decode cL_law 355 = .ok (.iaload, 1) := by decide +kernel
theorem dL_law_356 : decode cL_law 356 = .ok (.invokevirtual 46, 3) := by decide +kernel
theorem dL_law_359 : decode cL_law 359 = .ok (.pop, 1) := by decide +kernel
theorem dL_law_360 : decode cL_law 360 = .ok (.goto 757, 3) := by decide +kernel
theorem dL_law_363 : decode cL_law 363 = .ok (.aload_n 1, 1) := by decide +kernel
theorem dL_law_364 : decode cL_law 364 = .ok (.aload_n 0, 1) := by decide +kernel
theorem dL_law_365 : decode cL_law 365 = .ok (.iload_n 3, 1) := by decide +kernel
theorem dL_law_366 : decode cL_law 366 = .ok (.iconst 1, 1) := by decide +kernel
theorem dL_law_367 : decode cL_law 367 = .ok (.iadd, 1) := by decide +kernel
theorem dL_law_368 : decode cL_law 368 = .ok (.iaload, 1) := by decide +kernel
theorem dL_law_369 : decode cL_law 369 = .ok (.aload_n 0, 1) := by decide +kernel
theorem dL_law_370 : decode cL_law 370 = .ok (.iload_n 3, 1) := by decide +kernel
theorem dL_law_371 : decode cL_law 371 = .ok (.iconst 2, 1) := by decide +kernel
theorem dL_law_372 : decode cL_law 372 = .ok (.iadd, 1) := by decide +kernel
theorem dL_law_373 : decode cL_law 373 = .ok (.iaload, 1) := by decide +kernel
theorem dL_law_374 : decode cL_law 374 = .ok (.invokevirtual 47, 3) := by decide +kernel
theorem dL_law_377 : decode cL_law 377 = .ok (.pop, 1) := by decide +kernel
theorem dL_law_378 : decode cL_law 378 = .ok (.aload_n 2, 1) := by decide +kernel
theorem dL_law_379 : decode cL_law 379 = .ok (.aload_n 0, 1) := by decide +kernel
theorem dL_law_380 : decode cL_law 380 = .ok (.iload_n 3, 1) := by decide +kernel
theorem dL_law_381 : decode cL_law 381 = .ok (.iconst 1, 1) := by decide +kernel
theorem dL_law_382 : decode cL_law 382 = .ok (.iadd, 1) := by decide +kernel
theorem dL_law_383 : decode cL_law 383 = .ok (.iaload, 1) := by decide +kernel
theorem dL_law_384 : decode cL_law 384 = .ok (.aload_n 0, 1) := by decide +kernel
theorem dL_law_385 : decode cL_law 385 = .ok (.iload_n 3, 1) := by decide +kernel
theorem dL_law_386 : decode cL_law 386 = .ok (.iconst 2, 1) := by decide +kernel
theorem dL_law_387 : decode cL_law 387 = .ok (.iadd, 1) := by decide +kernel
theorem dL_law_388 : decode cL_law 388 = .ok (.iaload, 1) := by decide +kernel
theorem dL_law_389 : decode cL_law 389 = .ok (.invokevirtual 50, 3) := by decide +kernel
theorem dL_law_392 : decode cL_law 392 = .ok (.pop, 1) := by decide +kernel
theorem dL_law_393 : decode cL_law 393 = .ok (.goto 724, 3) := by decide +kernel
theorem dL_law_396 : decode cL_law 396 = .ok (.aload_n 1, 1) := by decide +kernel
theorem dL_law_397 : decode cL_law 397 = .ok (.aload_n 0, 1) := by decide +kernel
theorem dL_law_398 : decode cL_law 398 = .ok (.iload_n 3, 1) := by decide +kernel
theorem dL_law_399 : decode cL_law 399 = .ok (.iconst 1, 1) := by decide +kernel
theorem dL_law_400 : decode cL_law 400 = .ok (.iadd, 1) := by decide +kernel
theorem dL_law_401 : decode cL_law 401 = .ok (.iaload, 1) := by decide +kernel
theorem dL_law_402 : decode cL_law 402 = .ok (.ifCond .eq 7, 3) := by decide +kernel
theorem dL_law_405 : decode cL_law 405 = .ok (.iconst 1, 1) := by decide +kernel
theorem dL_law_406 : decode cL_law 406 = .ok (.goto 4, 3) := by decide +kernel
theorem dL_law_409 : decode cL_law 409 = .ok (.iconst 0, 1) := by decide +kernel
theorem dL_law_410 : decode cL_law 410 = .ok (.invokevirtual 51, 3) := by decide +kernel
theorem dL_law_413 : decode cL_law 413 = .ok (.pop, 1) := by decide +kernel
theorem dL_law_414 : decode cL_law 414 = .ok (.aload_n 2, 1) := by decide +kernel
theorem dL_law_415 : decode cL_law 415 = .ok (.aload_n 0, 1) := by decide +kernel
theorem dL_law_416 : decode cL_law 416 = .ok (.iload_n 3, 1) := by decide +kernel
theorem dL_law_417 : decode cL_law 417 = .ok (.iconst 1, 1) := by decide +kernel
theorem dL_law_418 : decode cL_law 418 = .ok (.iadd, 1) := by decide +kernel
theorem dL_law_419 : decode cL_law 419 = .ok (.iaload, 1) := by decide +kernel
theorem dL_law_420 : decode cL_law 420 = .ok (.ifCond .eq 7, 3) := by decide +kernel
theorem dL_law_423 : decode cL_law 423 = .ok (.iconst 1, 1) := by decide +kernel
theorem dL_law_424 : decode cL_law 424 = .ok (.goto 4, 3) := by decide +kernel
theorem dL_law_427 : decode cL_law 427 = .ok (.iconst 0, 1) := by decide +kernel
theorem dL_law_428 : decode cL_law 428 = .ok (.invokevirtual 55, 3) := by decide +kernel
theorem dL_law_431 : decode cL_law 431 = .ok (.pop, 1) := by decide +kernel
theorem dL_law_432 : decode cL_law 432 = .ok (.goto 685, 3) := by decide +kernel
theorem dL_law_435 : decode cL_law 435 = .ok (.aload_n 1, 1) := by decide +kernel
theorem dL_law_436 : decode cL_law 436 = .ok (.aload_n 0, 1) := by decide +kernel
theorem dL_law_437 : decode cL_law 437 = .ok (.iload_n 3, 1) := by decide +kernel
theorem dL_law_438 : decode cL_law 438 = .ok (.iconst 1, 1) := by decide +kernel
theorem dL_law_439 : decode cL_law 439 = .ok (.iadd, 1) := by decide +kernel
theorem dL_law_440 : decode cL_law 440 = .ok (.iaload, 1) := by decide +kernel
theorem dL_law_441 : decode cL_law 441 = .ok (.aload_n 0, 1) := by decide +kernel
theorem dL_law_442 : decode cL_law 442 = .ok (.iload_n 3, 1) := by decide +kernel
theorem dL_law_443 : decode cL_law 443 = .ok (.iconst 2, 1) := by decide +kernel
theorem dL_law_444 : decode cL_law 444 = .ok (.iadd, 1) := by decide +kernel
theorem dL_law_445 : decode cL_law 445 = .ok (.iaload, 1) := by decide +kernel
theorem dL_law_446 : decode cL_law 446 = .ok (.ifCond .eq 7, 3) := by decide +kernel
theorem dL_law_449 : decode cL_law 449 = .ok (.iconst 1, 1) := by decide +kernel
theorem dL_law_450 : decode cL_law 450 = .ok (.goto 4, 3) := by decide +kernel
theorem dL_law_453 : decode cL_law 453 = .ok (.iconst 0, 1) := by decide +kernel
theorem dL_law_454 : decode cL_law 454 = .ok (.invokevirtual 56, 3) := by decide +kernel
theorem dL_law_457 : decode cL_law 457 = .ok (.pop, 1) := by decide +kernel
theorem dL_law_458 : decode cL_law 458 = .ok (.aload_n 2, 1) := by decide +kernel
theorem dL_law_459 : decode cL_law 459 = .ok (.aload_n 0, 1) := by decide +kernel
theorem dL_law_460 : decode cL_law 460 = .ok (.iload_n 3, 1) := by decide +kernel
theorem dL_law_461 : decode cL_law 461 = .ok (.iconst 1, 1) := by decide +kernel
theorem dL_law_462 : decode cL_law 462 = .ok (.iadd, 1) := by decide +kernel
theorem dL_law_463 : decode cL_law 463 = .ok (.iaload, 1) := by decide +kernel
theorem dL_law_464 : decode cL_law 464 = .ok (.aload_n 0, 1) := by decide +kernel
theorem dL_law_465 : decode cL_law 465 = .ok (.iload_n 3, 1) := by decide +kernel
theorem dL_law_466 : decode cL_law 466 = .ok (.iconst 2, 1) := by decide +kernel
theorem dL_law_467 : decode cL_law 467 = .ok (.iadd, 1) := by decide +kernel
theorem dL_law_468 : decode cL_law 468 = .ok (.iaload, 1) := by decide +kernel
theorem dL_law_469 : decode cL_law 469 = .ok (.ifCond .eq 7, 3) := by decide +kernel
theorem dL_law_472 : decode cL_law 472 = .ok (.iconst 1, 1) := by decide +kernel
theorem dL_law_473 : decode cL_law 473 = .ok (.goto 4, 3) := by decide +kernel
theorem dL_law_476 : decode cL_law 476 = .ok (.iconst 0, 1) := by decide +kernel
theorem dL_law_477 : decode cL_law 477 = .ok (.invokevirtual 60, 3) := by decide +kernel
theorem dL_law_480 : decode cL_law 480 = .ok (.pop, 1) := by decide +kernel
theorem dL_law_481 : decode cL_law 481 = .ok (.goto 636, 3) := by decide +kernel
theorem dL_law_484 : decode cL_law 484 = .ok (.aload_n 1, 1) := by decide +kernel
theorem dL_law_485 : decode cL_law 485 = .ok (.aload_n 0, 1) := by decide +kernel
theorem dL_law_486 : decode cL_law 486 = .ok (.iload_n 3, 1) := by decide +kernel
theorem dL_law_487 : decode cL_law 487 = .ok (.iconst 1, 1) := by decide +kernel
theorem dL_law_488 : decode cL_law 488 = .ok (.iadd, 1) := by decide +kernel
theorem dL_law_489 : decode cL_law 489 = .ok (.iaload, 1) := by decide +kernel
theorem dL_law_490 : decode cL_law 490 = .ok (.aload_n 0, 1) := by decide +kernel
theorem dL_law_491 : decode cL_law 491 = .ok (.iload_n 3, 1) := by decide +kernel
theorem dL_law_492 : decode cL_law 492 = .ok (.iconst 2, 1) := by decide +kernel
theorem dL_law_493 : decode cL_law 493 = .ok (.iadd, 1) := by decide +kernel
theorem dL_law_494 : decode cL_law 494 = .ok (.iaload, 1) := by decide +kernel
theorem dL_law_495 : decode cL_law 495 = .ok (.invokevirtual 61, 3) := by decide +kernel
theorem dL_law_498 : decode cL_law 498 = .ok (.pop, 1) := by decide +kernel
theorem dL_law_499 : decode cL_law 499 = .ok (.aload_n 2, 1) := by decide +kernel
theorem dL_law_500 : decode cL_law 500 = .ok (.aload_n 0, 1) := by decide +kernel
theorem dL_law_501 : decode cL_law 501 = .ok (.iload_n 3, 1) := by decide +kernel
theorem dL_law_502 : decode cL_law 502 = .ok (.iconst 1, 1) := by decide +kernel
theorem dL_law_503 : decode cL_law 503 = .ok (.iadd, 1) := by decide +kernel
theorem dL_law_504 : decode cL_law 504 = .ok (.iaload, 1) := by decide +kernel
theorem dL_law_505 : decode cL_law 505 = .ok (.aload_n 0, 1) := by decide +kernel
theorem dL_law_506 : decode cL_law 506 = .ok (.iload_n 3, 1) := by decide +kernel
theorem dL_law_507 : decode cL_law 507 = .ok (.iconst 2, 1) := by decide +kernel
theorem dL_law_508 : decode cL_law 508 = .ok (.iadd, 1) := by decide +kernel
theorem dL_law_509 : decode cL_law 509 = .ok (.iaload, 1) := by decide +kernel
theorem dL_law_510 : decode cL_law 510 = .ok (.invokevirtual 64, 3) := by decide +kernel
theorem dL_law_513 : decode cL_law 513 = .ok (.pop, 1) := by decide +kernel
theorem dL_law_514 : decode cL_law 514 = .ok (.goto 603, 3) := by decide +kernel
theorem dL_law_517 : decode cL_law 517 = .ok (.aload_n 1, 1) := by decide +kernel
theorem dL_law_518 : decode cL_law 518 = .ok (.aload_n 0, 1) := by decide +kernel
theorem dL_law_519 : decode cL_law 519 = .ok (.iload_n 3, 1) := by decide +kernel
theorem dL_law_520 : decode cL_law 520 = .ok (.iconst 1, 1) := by decide +kernel
theorem dL_law_521 : decode cL_law 521 = .ok (.iadd, 1) := by decide +kernel
theorem dL_law_522 : decode cL_law 522 = .ok (.iaload, 1) := by decide +kernel
theorem dL_law_523 : decode cL_law 523 = .ok (.invokevirtual 65, 3) := by decide +kernel
theorem dL_law_526 : decode cL_law 526 = .ok (.pop, 1) := by decide +kernel
theorem dL_law_527 : decode cL_law 527 = .ok (.aload_n 2, 1) := by decide +kernel
theorem dL_law_528 : decode cL_law 528 = .ok (.aload_n 0, 1) := by decide +kernel
theorem dL_law_529 : decode cL_law 529 = .ok (.iload_n 3, 1) := by decide +kernel
theorem dL_law_530 : decode cL_law 530 = .ok (.iconst 1, 1) := by decide +kernel
theorem dL_law_531 : decode cL_law 531 = .ok (.iadd, 1) := by decide +kernel
theorem dL_law_532 : decode cL_law 532 = .ok (.iaload, 1) := by decide +kernel
theorem dL_law_533 : decode cL_law 533 = .ok (.invokevirtual 68, 3) := by decide +kernel
theorem dL_law_536 : decode cL_law 536 = .ok (.pop, 1) := by decide +kernel
theorem dL_law_537 : decode cL_law 537 = .ok (.goto 580, 3) := by decide +kernel
theorem dL_law_540 : decode cL_law 540 = .ok (.aload_n 1, 1) := by decide +kernel
theorem dL_law_541 : decode cL_law 541 = .ok (.aload_n 0, 1) := by decide +kernel
theorem dL_law_542 : decode cL_law 542 = .ok (.iload_n 3, 1) := by decide +kernel
theorem dL_law_543 : decode cL_law 543 = .ok (.iconst 1, 1) := by decide +kernel
theorem dL_law_544 : decode cL_law 544 = .ok (.iadd, 1) := by decide +kernel
theorem dL_law_545 : decode cL_law 545 = .ok (.iaload, 1) := by decide +kernel
theorem dL_law_546 : decode cL_law 546 = .ok (.invokevirtual 69, 3) := by decide +kernel
theorem dL_law_549 : decode cL_law 549 = .ok (.pop, 1) := by decide +kernel
theorem dL_law_550 : decode cL_law 550 = .ok (.aload_n 2, 1) := by decide +kernel
theorem dL_law_551 : decode cL_law 551 = .ok (.aload_n 0, 1) := by decide +kernel
theorem dL_law_552 : decode cL_law 552 = .ok (.iload_n 3, 1) := by decide +kernel
theorem dL_law_553 : decode cL_law 553 = .ok (.iconst 1, 1) := by decide +kernel
theorem dL_law_554 : decode cL_law 554 = .ok (.iadd, 1) := by decide +kernel
theorem dL_law_555 : decode cL_law 555 = .ok (.iaload, 1) := by decide +kernel
theorem dL_law_556 : decode cL_law 556 = .ok (.invokevirtual 72, 3) := by decide +kernel
theorem dL_law_559 : decode cL_law 559 = .ok (.pop, 1) := by decide +kernel
theorem dL_law_560 : decode cL_law 560 = .ok (.goto 557, 3) := by decide +kernel
theorem dL_law_563 : decode cL_law 563 = .ok (.aload_n 1, 1) := by decide +kernel
theorem dL_law_564 : decode cL_law 564 = .ok (.aload_n 0, 1) := by decide +kernel
theorem dL_law_565 : decode cL_law 565 = .ok (.iload_n 3, 1) := by decide +kernel
theorem dL_law_566 : decode cL_law 566 = .ok (.iconst 1, 1) := by decide +kernel
theorem dL_law_567 : decode cL_law 567 = .ok (.iadd, 1) := by decide +kernel
theorem dL_law_568 : decode cL_law 568 = .ok (.iaload, 1) := by decide +kernel
theorem dL_law_569 : decode cL_law 569 = .ok (.aload_n 0, 1) := by decide +kernel
theorem dL_law_570 : decode cL_law 570 = .ok (.iload_n 3, 1) := by decide +kernel
theorem dL_law_571 : decode cL_law 571 = .ok (.iconst 2, 1) := by decide +kernel
theorem dL_law_572 : decode cL_law 572 = .ok (.iadd, 1) := by decide +kernel
theorem dL_law_573 : decode cL_law 573 = .ok (.iaload, 1) := by decide +kernel
theorem dL_law_574 : decode cL_law 574 = .ok (.invokevirtual 73, 3) := by decide +kernel
theorem dL_law_577 : decode cL_law 577 = .ok (.pop, 1) := by decide +kernel
theorem dL_law_578 : decode cL_law 578 = .ok (.aload_n 2, 1) := by decide +kernel
theorem dL_law_579 : decode cL_law 579 = .ok (.aload_n 0, 1) := by decide +kernel
theorem dL_law_580 : decode cL_law 580 = .ok (.iload_n 3, 1) := by decide +kernel
theorem dL_law_581 : decode cL_law 581 = .ok (.iconst 1, 1) := by decide +kernel
theorem dL_law_582 : decode cL_law 582 = .ok (.iadd, 1) := by decide +kernel
theorem dL_law_583 : decode cL_law 583 = .ok (.iaload, 1) := by decide +kernel
theorem dL_law_584 : decode cL_law 584 = .ok (.aload_n 0, 1) := by decide +kernel
theorem dL_law_585 : decode cL_law 585 = .ok (.iload_n 3, 1) := by decide +kernel
theorem dL_law_586 : decode cL_law 586 = .ok (.iconst 2, 1) := by decide +kernel
theorem dL_law_587 : decode cL_law 587 = .ok (.iadd, 1) := by decide +kernel
theorem dL_law_588 : decode cL_law 588 = .ok (.iaload, 1) := by decide +kernel
theorem dL_law_589 : decode cL_law 589 = .ok (.invokevirtual 76, 3) := by decide +kernel
theorem dL_law_592 : decode cL_law 592 = .ok (.pop, 1) := by decide +kernel
theorem dL_law_593 : decode cL_law 593 = .ok (.goto 524, 3) := by decide +kernel
theorem dL_law_596 : decode cL_law 596 = .ok (.aload_n 1, 1) := by decide +kernel
theorem dL_law_597 : decode cL_law 597 = .ok (.aload_n 0, 1) := by decide +kernel
theorem dL_law_598 : decode cL_law 598 = .ok (.iload_n 3, 1) := by decide +kernel
theorem dL_law_599 : decode cL_law 599 = .ok (.iconst 1, 1) := by decide +kernel
theorem dL_law_600 : decode cL_law 600 = .ok (.iadd, 1) := by decide +kernel
theorem dL_law_601 : decode cL_law 601 = .ok (.iaload, 1) := by decide +kernel
theorem dL_law_602 : decode cL_law 602 = .ok (.aload_n 0, 1) := by decide +kernel
theorem dL_law_603 : decode cL_law 603 = .ok (.iload_n 3, 1) := by decide +kernel
theorem dL_law_604 : decode cL_law 604 = .ok (.iconst 2, 1) := by decide +kernel
theorem dL_law_605 : decode cL_law 605 = .ok (.iadd, 1) := by decide +kernel
theorem dL_law_606 : decode cL_law 606 = .ok (.iaload, 1) := by decide +kernel
theorem dL_law_607 : decode cL_law 607 = .ok (.invokevirtual 77, 3) := by decide +kernel
theorem dL_law_610 : decode cL_law 610 = .ok (.pop, 1) := by decide +kernel
theorem dL_law_611 : decode cL_law 611 = .ok (.aload_n 2, 1) := by decide +kernel
theorem dL_law_612 : decode cL_law 612 = .ok (.aload_n 0, 1) := by decide +kernel
theorem dL_law_613 : decode cL_law 613 = .ok (.iload_n 3, 1) := by decide +kernel
theorem dL_law_614 : decode cL_law 614 = .ok (.iconst 1, 1) := by decide +kernel
theorem dL_law_615 : decode cL_law 615 = .ok (.iadd, 1) := by decide +kernel
theorem dL_law_616 : decode cL_law 616 = .ok (.iaload, 1) := by decide +kernel
theorem dL_law_617 : decode cL_law 617 = .ok (.aload_n 0, 1) := by decide +kernel
theorem dL_law_618 : decode cL_law 618 = .ok (.iload_n 3, 1) := by decide +kernel
theorem dL_law_619 : decode cL_law 619 = .ok (.iconst 2, 1) := by decide +kernel
theorem dL_law_620 : decode cL_law 620 = .ok (.iadd, 1) := by decide +kernel
theorem dL_law_621 : decode cL_law 621 = .ok (.iaload, 1) := by decide +kernel
theorem dL_law_622 : decode cL_law 622 = .ok (.invokevirtual 80, 3) := by decide +kernel
theorem dL_law_625 : decode cL_law 625 = .ok (.pop, 1) := by decide +kernel
theorem dL_law_626 : decode cL_law 626 = .ok (.goto 491, 3) := by decide +kernel
theorem dL_law_629 : decode cL_law 629 = .ok (.aload_n 1, 1) := by decide +kernel
theorem dL_law_630 : decode cL_law 630 = .ok (.aload_n 0, 1) := by decide +kernel
theorem dL_law_631 : decode cL_law 631 = .ok (.iload_n 3, 1) := by decide +kernel
theorem dL_law_632 : decode cL_law 632 = .ok (.iconst 1, 1) := by decide +kernel
theorem dL_law_633 : decode cL_law 633 = .ok (.iadd, 1) := by decide +kernel
theorem dL_law_634 : decode cL_law 634 = .ok (.iaload, 1) := by decide +kernel
theorem dL_law_635 : decode cL_law 635 = .ok (.invokevirtual 81, 3) := by decide +kernel
theorem dL_law_638 : decode cL_law 638 = .ok (.pop, 1) := by decide +kernel
theorem dL_law_639 : decode cL_law 639 = .ok (.aload_n 2, 1) := by decide +kernel
theorem dL_law_640 : decode cL_law 640 = .ok (.aload_n 0, 1) := by decide +kernel
theorem dL_law_641 : decode cL_law 641 = .ok (.iload_n 3, 1) := by decide +kernel
theorem dL_law_642 : decode cL_law 642 = .ok (.iconst 1, 1) := by decide +kernel
theorem dL_law_643 : decode cL_law 643 = .ok (.iadd, 1) := by decide +kernel
theorem dL_law_644 : decode cL_law 644 = .ok (.iaload, 1) := by decide +kernel
theorem dL_law_645 : decode cL_law 645 = .ok (.invokevirtual 84, 3) := by decide +kernel
theorem dL_law_648 : decode cL_law 648 = .ok (.pop, 1) := by decide +kernel
theorem dL_law_649 : decode cL_law 649 = .ok (.goto 468, 3) := by decide +kernel
theorem dL_law_652 : decode cL_law 652 = .ok (.aload_n 1, 1) := by decide +kernel
theorem dL_law_653 : decode cL_law 653 = .ok (.aload_n 0, 1) := by decide +kernel
theorem dL_law_654 : decode cL_law 654 = .ok (.iload_n 3, 1) := by decide +kernel
theorem dL_law_655 : decode cL_law 655 = .ok (.iconst 1, 1) := by decide +kernel
theorem dL_law_656 : decode cL_law 656 = .ok (.iadd, 1) := by decide +kernel
theorem dL_law_657 : decode cL_law 657 = .ok (.iaload, 1) := by decide +kernel
theorem dL_law_658 : decode cL_law 658 = .ok (.aload_n 0, 1) := by decide +kernel
theorem dL_law_659 : decode cL_law 659 = .ok (.iload_n 3, 1) := by decide +kernel
theorem dL_law_660 : decode cL_law 660 = .ok (.iconst 2, 1) := by decide +kernel
theorem dL_law_661 : decode cL_law 661 = .ok (.iadd, 1) := by decide +kernel
theorem dL_law_662 : decode cL_law 662 = .ok (.iaload, 1) := by decide +kernel
theorem dL_law_663 : decode cL_law 663 = .ok (.invokevirtual 85, 3) := by decide +kernel
theorem dL_law_666 : decode cL_law 666 = .ok (.pop, 1) := by decide +kernel
theorem dL_law_667 : decode cL_law 667 = .ok (.aload_n 2, 1) := by decide +kernel
theorem dL_law_668 : decode cL_law 668 = .ok (.aload_n 0, 1) := by decide +kernel
theorem dL_law_669 : decode cL_law 669 = .ok (.iload_n 3, 1) := by decide +kernel
theorem dL_law_670 : decode cL_law 670 = .ok (.iconst 1, 1) := by decide +kernel
theorem dL_law_671 : decode cL_law 671 = .ok (.iadd, 1) := by decide +kernel
theorem dL_law_672 : decode cL_law 672 = .ok (.iaload, 1) := by decide +kernel
theorem dL_law_673 : decode cL_law 673 = .ok (.aload_n 0, 1) := by decide +kernel
theorem dL_law_674 : decode cL_law 674 = .ok (.iload_n 3, 1) := by decide +kernel
theorem dL_law_675 : decode cL_law 675 = .ok (.iconst 2, 1) := by decide +kernel
theorem dL_law_676 : decode cL_law 676 = .ok (.iadd, 1) := by decide +kernel
theorem dL_law_677 : decode cL_law 677 = .ok (.iaload, 1) := by decide +kernel
theorem dL_law_678 : decode cL_law 678 = .ok (.invokevirtual 88, 3) := by decide +kernel
theorem dL_law_681 : decode cL_law 681 = .ok (.pop, 1) := by decide +kernel
theorem dL_law_682 : decode cL_law 682 = .ok (.goto 435, 3) := by decide +kernel
theorem dL_law_685 : decode cL_law 685 = .ok (.aload_n 1, 1) := by decide +kernel
theorem dL_law_686 : decode cL_law 686 = .ok (.aload_n 0, 1) := by decide +kernel
theorem dL_law_687 : decode cL_law 687 = .ok (.iload_n 3, 1) := by decide +kernel
theorem dL_law_688 : decode cL_law 688 = .ok (.iconst 1, 1) := by decide +kernel
theorem dL_law_689 : decode cL_law 689 = .ok (.iadd, 1) := by decide +kernel
theorem dL_law_690 : decode cL_law 690 = .ok (.iaload, 1) := by decide +kernel
theorem dL_law_691 : decode cL_law 691 = .ok (.aload_n 0, 1) := by decide +kernel
theorem dL_law_692 : decode cL_law 692 = .ok (.iload_n 3, 1) := by decide +kernel
theorem dL_law_693 : decode cL_law 693 = .ok (.iconst 2, 1) := by decide +kernel
theorem dL_law_694 : decode cL_law 694 = .ok (.iadd, 1) := by decide +kernel
theorem dL_law_695 : decode cL_law 695 = .ok (.iaload, 1) := by decide +kernel
theorem dL_law_696 : decode cL_law 696 = .ok (.aload_n 0, 1) := by decide +kernel
theorem dL_law_697 : decode cL_law 697 = .ok (.iload_n 3, 1) := by decide +kernel
theorem dL_law_698 : decode cL_law 698 = .ok (.iconst 3, 1) := by decide +kernel
theorem dL_law_699 : decode cL_law 699 = .ok (.iadd, 1) := by decide +kernel
theorem dL_law_700 : decode cL_law 700 = .ok (.iaload, 1) := by decide +kernel
theorem dL_law_701 : decode cL_law 701 = .ok (.invokevirtual 89, 3) := by decide +kernel
theorem dL_law_704 : decode cL_law 704 = .ok (.pop, 1) := by decide +kernel
theorem dL_law_705 : decode cL_law 705 = .ok (.aload_n 2, 1) := by decide +kernel
theorem dL_law_706 : decode cL_law 706 = .ok (.aload_n 0, 1) := by decide +kernel
theorem dL_law_707 : decode cL_law 707 = .ok (.iload_n 3, 1) := by decide +kernel
theorem dL_law_708 : decode cL_law 708 = .ok (.iconst 1, 1) := by decide +kernel
theorem dL_law_709 : decode cL_law 709 = .ok (.iadd, 1) := by decide +kernel
theorem dL_law_710 : decode cL_law 710 = .ok (.iaload, 1) := by decide +kernel
theorem dL_law_711 : decode cL_law 711 = .ok (.aload_n 0, 1) := by decide +kernel
theorem dL_law_712 : decode cL_law 712 = .ok (.iload_n 3, 1) := by decide +kernel
theorem dL_law_713 : decode cL_law 713 = .ok (.iconst 2, 1) := by decide +kernel
theorem dL_law_714 : decode cL_law 714 = .ok (.iadd, 1) := by decide +kernel
theorem dL_law_715 : decode cL_law 715 = .ok (.iaload, 1) := by decide +kernel
theorem dL_law_716 : decode cL_law 716 = .ok (.aload_n 0, 1) := by decide +kernel
theorem dL_law_717 : decode cL_law 717 = .ok (.iload_n 3, 1) := by decide +kernel
theorem dL_law_718 : decode cL_law 718 = .ok (.iconst 3, 1) := by decide +kernel
theorem dL_law_719 : decode cL_law 719 = .ok (.iadd, 1) := by decide +kernel
theorem dL_law_720 : decode cL_law 720 = .ok (.iaload, 1) := by decide +kernel
theorem dL_law_721 : decode cL_law 721 = .ok (.invokevirtual 93, 3) := by decide +kernel
theorem dL_law_724 : decode cL_law 724 = .ok (.pop, 1) := by decide +kernel
theorem dL_law_725 : decode cL_law 725 = .ok (.goto 392, 3) := by decide +kernel
theorem dL_law_728 : decode cL_law 728 = .ok (.aload_n 1, 1) := by decide +kernel
theorem dL_law_729 : decode cL_law 729 = .ok (.aload_n 0, 1) := by decide +kernel
theorem dL_law_730 : decode cL_law 730 = .ok (.iload_n 3, 1) := by decide +kernel
theorem dL_law_731 : decode cL_law 731 = .ok (.iconst 1, 1) := by decide +kernel
theorem dL_law_732 : decode cL_law 732 = .ok (.iadd, 1) := by decide +kernel
theorem dL_law_733 : decode cL_law 733 = .ok (.iaload, 1) := by decide +kernel
theorem dL_law_734 : decode cL_law 734 = .ok (.invokevirtual 94, 3) := by decide +kernel
theorem dL_law_737 : decode cL_law 737 = .ok (.pop, 1) := by decide +kernel
theorem dL_law_738 : decode cL_law 738 = .ok (.aload_n 2, 1) := by decide +kernel
theorem dL_law_739 : decode cL_law 739 = .ok (.aload_n 0, 1) := by decide +kernel
theorem dL_law_740 : decode cL_law 740 = .ok (.iload_n 3, 1) := by decide +kernel
theorem dL_law_741 : decode cL_law 741 = .ok (.iconst 1, 1) := by decide +kernel
theorem dL_law_742 : decode cL_law 742 = .ok (.iadd, 1) := by decide +kernel
theorem dL_law_743 : decode cL_law 743 = .ok (.iaload, 1) := by decide +kernel
theorem dL_law_744 : decode cL_law 744 = .ok (.invokevirtual 97, 3) := by decide +kernel
theorem dL_law_747 : decode cL_law 747 = .ok (.pop, 1) := by decide +kernel
theorem dL_law_748 : decode cL_law 748 = .ok (.goto 369, 3) := by decide +kernel
theorem dL_law_751 : decode cL_law 751 = .ok (.aload_n 1, 1) := by decide +kernel
theorem dL_law_752 : decode cL_law 752 = .ok (.aload_n 0, 1) := by decide +kernel
theorem dL_law_753 : decode cL_law 753 = .ok (.iload_n 3, 1) := by decide +kernel
theorem dL_law_754 : decode cL_law 754 = .ok (.iconst 1, 1) := by decide +kernel
theorem dL_law_755 : decode cL_law 755 = .ok (.iadd, 1) := by decide +kernel
theorem dL_law_756 : decode cL_law 756 = .ok (.iaload, 1) := by decide +kernel
theorem dL_law_757 : decode cL_law 757 = .ok (.invokevirtual 98, 3) := by decide +kernel
theorem dL_law_760 : decode cL_law 760 = .ok (.pop, 1) := by decide +kernel
theorem dL_law_761 : decode cL_law 761 = .ok (.aload_n 2, 1) := by decide +kernel
theorem dL_law_762 : decode cL_law 762 = .ok (.aload_n 0, 1) := by decide +kernel
theorem dL_law_763 : decode cL_law 763 = .ok (.iload_n 3, 1) := by decide +kernel
theorem dL_law_764 : decode cL_law 764 = .ok (.iconst 1, 1) := by decide +kernel
theorem dL_law_765 : decode cL_law 765 = .ok (.iadd, 1) := by decide +kernel
theorem dL_law_766 : decode cL_law 766 = .ok (.iaload, 1) := by decide +kernel
theorem dL_law_767 : decode cL_law 767 = .ok (.invokevirtual 101, 3) := by decide +kernel
theorem dL_law_770 : decode cL_law 770 = .ok (.pop, 1) := by decide +kernel
theorem dL_law_771 : decode cL_law 771 = .ok (.goto 346, 3) := by decide +kernel
theorem dL_law_774 : decode cL_law 774 = .ok (.aload_n 1, 1) := by decide +kernel
theorem dL_law_775 : decode cL_law 775 = .ok (.aload_n 0, 1) := by decide +kernel
theorem dL_law_776 : decode cL_law 776 = .ok (.iload_n 3, 1) := by decide +kernel
theorem dL_law_777 : decode cL_law 777 = .ok (.iconst 1, 1) := by decide +kernel
theorem dL_law_778 : decode cL_law 778 = .ok (.iadd, 1) := by decide +kernel
theorem dL_law_779 : decode cL_law 779 = .ok (.iaload, 1) := by decide +kernel
theorem dL_law_780 : decode cL_law 780 = .ok (.invokevirtual 102, 3) := by decide +kernel
theorem dL_law_783 : decode cL_law 783 = .ok (.pop, 1) := by decide +kernel
theorem dL_law_784 : decode cL_law 784 = .ok (.aload_n 2, 1) := by decide +kernel
theorem dL_law_785 : decode cL_law 785 = .ok (.aload_n 0, 1) := by decide +kernel
theorem dL_law_786 : decode cL_law 786 = .ok (.iload_n 3, 1) := by decide +kernel
theorem dL_law_787 : decode cL_law 787 = .ok (.iconst 1, 1) := by decide +kernel
theorem dL_law_788 : decode cL_law 788 = .ok (.iadd, 1) := by decide +kernel
theorem dL_law_789 : decode cL_law 789 = .ok (.iaload, 1) := by decide +kernel
theorem dL_law_790 : decode cL_law 790 = .ok (.invokevirtual 105, 3) := by decide +kernel
theorem dL_law_793 : decode cL_law 793 = .ok (.pop, 1) := by decide +kernel
theorem dL_law_794 : decode cL_law 794 = .ok (.goto 323, 3) := by decide +kernel
theorem dL_law_797 : decode cL_law 797 = .ok (.aload_n 1, 1) := by decide +kernel
theorem dL_law_798 : decode cL_law 798 = .ok (.invokevirtual 106, 3) := by decide +kernel
theorem dL_law_801 : decode cL_law 801 = .ok (.pop, 1) := by decide +kernel
theorem dL_law_802 : decode cL_law 802 = .ok (.aload_n 2, 1) := by decide +kernel
theorem dL_law_803 : decode cL_law 803 = .ok (.invokevirtual 109, 3) := by decide +kernel
theorem dL_law_806 : decode cL_law 806 = .ok (.pop, 1) := by decide +kernel
theorem dL_law_807 : decode cL_law 807 = .ok (.goto 310, 3) := by decide +kernel
theorem dL_law_810 : decode cL_law 810 = .ok (.aload_n 1, 1) := by decide +kernel
theorem dL_law_811 : decode cL_law 811 = .ok (.aload_n 0, 1) := by decide +kernel
theorem dL_law_812 : decode cL_law 812 = .ok (.iload_n 3, 1) := by decide +kernel
theorem dL_law_813 : decode cL_law 813 = .ok (.iconst 1, 1) := by decide +kernel
theorem dL_law_814 : decode cL_law 814 = .ok (.iadd, 1) := by decide +kernel
theorem dL_law_815 : decode cL_law 815 = .ok (.iaload, 1) := by decide +kernel
theorem dL_law_816 : decode cL_law 816 = .ok (.invokevirtual 110, 3) := by decide +kernel
theorem dL_law_819 : decode cL_law 819 = .ok (.pop, 1) := by decide +kernel
theorem dL_law_820 : decode cL_law 820 = .ok (.aload_n 2, 1) := by decide +kernel
theorem dL_law_821 : decode cL_law 821 = .ok (.aload_n 0, 1) := by decide +kernel
theorem dL_law_822 : decode cL_law 822 = .ok (.iload_n 3, 1) := by decide +kernel
theorem dL_law_823 : decode cL_law 823 = .ok (.iconst 1, 1) := by decide +kernel
theorem dL_law_824 : decode cL_law 824 = .ok (.iadd, 1) := by decide +kernel
theorem dL_law_825 : decode cL_law 825 = .ok (.iaload, 1) := by decide +kernel
theorem dL_law_826 : decode cL_law 826 = .ok (.invokevirtual 113, 3) := by decide +kernel
theorem dL_law_829 : decode cL_law 829 = .ok (.pop, 1) := by decide +kernel
theorem dL_law_830 : decode cL_law 830 = .ok (.goto 287, 3) := by decide +kernel
theorem dL_law_833 : decode cL_law 833 = .ok (.aload_n 1, 1) := by decide +kernel
theorem dL_law_834 : decode cL_law 834 = .ok (.aload_n 0, 1) := by decide +kernel
theorem dL_law_835 : decode cL_law 835 = .ok (.iload_n 3, 1) := by decide +kernel
theorem dL_law_836 : decode cL_law 836 = .ok (.iconst 1, 1) := by decide +kernel
theorem dL_law_837 : decode cL_law 837 = .ok (.iadd, 1) := by decide +kernel
theorem dL_law_838 : decode cL_law 838 = .ok (.iaload, 1) := by decide +kernel
theorem dL_law_839 : decode cL_law 839 = .ok (.aload_n 0, 1) := by decide +kernel
theorem dL_law_840 : decode cL_law 840 = .ok (.iload_n 3, 1) := by decide +kernel
theorem dL_law_841 : decode cL_law 841 = .ok (.iconst 2, 1) := by decide +kernel
theorem dL_law_842 : decode cL_law 842 = .ok (.iadd, 1) := by decide +kernel
theorem dL_law_843 : decode cL_law 843 = .ok (.iaload, 1) := by decide +kernel
theorem dL_law_844 : decode cL_law 844 = .ok (.invokevirtual 114, 3) := by decide +kernel
theorem dL_law_847 : decode cL_law 847 = .ok (.pop, 1) := by decide +kernel
theorem dL_law_848 : decode cL_law 848 = .ok (.aload_n 2, 1) := by decide +kernel
theorem dL_law_849 : decode cL_law 849 = .ok (.aload_n 0, 1) := by decide +kernel
theorem dL_law_850 : decode cL_law 850 = .ok (.iload_n 3, 1) := by decide +kernel
theorem dL_law_851 : decode cL_law 851 = .ok (.iconst 1, 1) := by decide +kernel
theorem dL_law_852 : decode cL_law 852 = .ok (.iadd, 1) := by decide +kernel
theorem dL_law_853 : decode cL_law 853 = .ok (.iaload, 1) := by decide +kernel
theorem dL_law_854 : decode cL_law 854 = .ok (.aload_n 0, 1) := by decide +kernel
theorem dL_law_855 : decode cL_law 855 = .ok (.iload_n 3, 1) := by decide +kernel
theorem dL_law_856 : decode cL_law 856 = .ok (.iconst 2, 1) := by decide +kernel
theorem dL_law_857 : decode cL_law 857 = .ok (.iadd, 1) := by decide +kernel
theorem dL_law_858 : decode cL_law 858 = .ok (.iaload, 1) := by decide +kernel
theorem dL_law_859 : decode cL_law 859 = .ok (.invokevirtual 117, 3) := by decide +kernel
theorem dL_law_862 : decode cL_law 862 = .ok (.pop, 1) := by decide +kernel
theorem dL_law_863 : decode cL_law 863 = .ok (.goto 254, 3) := by decide +kernel
theorem dL_law_866 : decode cL_law 866 = .ok (.aload_n 1, 1) := by decide +kernel
theorem dL_law_867 : decode cL_law 867 = .ok (.aload_n 0, 1) := by decide +kernel
theorem dL_law_868 : decode cL_law 868 = .ok (.iload_n 3, 1) := by decide +kernel
theorem dL_law_869 : decode cL_law 869 = .ok (.iconst 1, 1) := by decide +kernel
theorem dL_law_870 : decode cL_law 870 = .ok (.iadd, 1) := by decide +kernel
theorem dL_law_871 : decode cL_law 871 = .ok (.iaload, 1) := by decide +kernel
theorem dL_law_872 : decode cL_law 872 = .ok (.aload_n 0, 1) := by decide +kernel
theorem dL_law_873 : decode cL_law 873 = .ok (.iload_n 3, 1) := by decide +kernel
theorem dL_law_874 : decode cL_law 874 = .ok (.iconst 2, 1) := by decide +kernel
theorem dL_law_875 : decode cL_law 875 = .ok (.iadd, 1) := by decide +kernel
theorem dL_law_876 : decode cL_law 876 = .ok (.iaload, 1) := by decide +kernel
theorem dL_law_877 : decode cL_law 877 = .ok (.invokevirtual 118, 3) := by decide +kernel
theorem dL_law_880 : decode cL_law 880 = .ok (.pop, 1) := by decide +kernel
theorem dL_law_881 : decode cL_law 881 = .ok (.aload_n 2, 1) := by decide +kernel
theorem dL_law_882 : decode cL_law 882 = .ok (.aload_n 0, 1) := by decide +kernel
theorem dL_law_883 : decode cL_law 883 = .ok (.iload_n 3, 1) := by decide +kernel
theorem dL_law_884 : decode cL_law 884 = .ok (.iconst 1, 1) := by decide +kernel
theorem dL_law_885 : decode cL_law 885 = .ok (.iadd, 1) := by decide +kernel
theorem dL_law_886 : decode cL_law 886 = .ok (.iaload, 1) := by decide +kernel
theorem dL_law_887 : decode cL_law 887 = .ok (.aload_n 0, 1) := by decide +kernel
theorem dL_law_888 : decode cL_law 888 = .ok (.iload_n 3, 1) := by decide +kernel
theorem dL_law_889 : decode cL_law 889 = .ok (.iconst 2, 1) := by decide +kernel
theorem dL_law_890 : decode cL_law 890 = .ok (.iadd, 1) := by decide +kernel
theorem dL_law_891 : decode cL_law 891 = .ok (.iaload, 1) := by decide +kernel
theorem dL_law_892 : decode cL_law 892 = .ok (.invokevirtual 121, 3) := by decide +kernel
theorem dL_law_895 : decode cL_law 895 = .ok (.pop, 1) := by decide +kernel
theorem dL_law_896 : decode cL_law 896 = .ok (.goto 221, 3) := by decide +kernel
theorem dL_law_899 : decode cL_law 899 = .ok (.aload_n 1, 1) := by decide +kernel
theorem dL_law_900 : decode cL_law 900 = .ok (.aload_n 0, 1) := by decide +kernel
theorem dL_law_901 : decode cL_law 901 = .ok (.iload_n 3, 1) := by decide +kernel
theorem dL_law_902 : decode cL_law 902 = .ok (.iconst 1, 1) := by decide +kernel
theorem dL_law_903 : decode cL_law 903 = .ok (.iadd, 1) := by decide +kernel
theorem dL_law_904 : decode cL_law 904 = .ok (.iaload, 1) := by decide +kernel
theorem dL_law_905 : decode cL_law 905 = .ok (.invokevirtual 122, 3) := by decide +kernel
theorem dL_law_908 : decode cL_law 908 = .ok (.pop, 1) := by decide +kernel
theorem dL_law_909 : decode cL_law 909 = .ok (.aload_n 2, 1) := by decide +kernel
theorem dL_law_910 : decode cL_law 910 = .ok (.aload_n 0, 1) := by decide +kernel
theorem dL_law_911 : decode cL_law 911 = .ok (.iload_n 3, 1) := by decide +kernel
theorem dL_law_912 : decode cL_law 912 = .ok (.iconst 1, 1) := by decide +kernel
theorem dL_law_913 : decode cL_law 913 = .ok (.iadd, 1) := by decide +kernel
theorem dL_law_914 : decode cL_law 914 = .ok (.iaload, 1) := by decide +kernel
theorem dL_law_915 : decode cL_law 915 = .ok (.invokevirtual 125, 3) := by decide +kernel
theorem dL_law_918 : decode cL_law 918 = .ok (.pop, 1) := by decide +kernel
theorem dL_law_919 : decode cL_law 919 = .ok (.goto 198, 3) := by decide +kernel
theorem dL_law_922 : decode cL_law 922 = .ok (.aload_n 1, 1) := by decide +kernel
theorem dL_law_923 : decode cL_law 923 = .ok (.aload_n 0, 1) := by decide +kernel
theorem dL_law_924 : decode cL_law 924 = .ok (.iload_n 3, 1) := by decide +kernel
theorem dL_law_925 : decode cL_law 925 = .ok (.iconst 1, 1) := by decide +kernel
theorem dL_law_926 : decode cL_law 926 = .ok (.iadd, 1) := by decide +kernel
theorem dL_law_927 : decode cL_law 927 = .ok (.iaload, 1) := by decide +kernel
theorem dL_law_928 : decode cL_law 928 = .ok (.invokevirtual 126, 3) := by decide +kernel
theorem dL_law_931 : decode cL_law 931 = .ok (.pop, 1) := by decide +kernel
theorem dL_law_932 : decode cL_law 932 = .ok (.aload_n 2, 1) := by decide +kernel
theorem dL_law_933 : decode cL_law 933 = .ok (.aload_n 0, 1) := by decide +kernel
theorem dL_law_934 : decode cL_law 934 = .ok (.iload_n 3, 1) := by decide +kernel
theorem dL_law_935 : decode cL_law 935 = .ok (.iconst 1, 1) := by decide +kernel
theorem dL_law_936 : decode cL_law 936 = .ok (.iadd, 1) := by decide +kernel
theorem dL_law_937 : decode cL_law 937 = .ok (.iaload, 1) := by decide +kernel
theorem dL_law_938 : decode cL_law 938 = .ok (.invokevirtual 129, 3) := by decide +kernel
theorem dL_law_941 : decode cL_law 941 = .ok (.pop, 1) := by decide +kernel
theorem dL_law_942 : decode cL_law 942 = .ok (.goto 175, 3) := by decide +kernel
theorem dL_law_945 : decode cL_law 945 = .ok (.aload_n 1, 1) := by decide +kernel
theorem dL_law_946 : decode cL_law 946 = .ok (.aload_n 0, 1) := by decide +kernel
theorem dL_law_947 : decode cL_law 947 = .ok (.iload_n 3, 1) := by decide +kernel
theorem dL_law_948 : decode cL_law 948 = .ok (.iconst 1, 1) := by decide +kernel
theorem dL_law_949 : decode cL_law 949 = .ok (.iadd, 1) := by decide +kernel
theorem dL_law_950 : decode cL_law 950 = .ok (.iaload, 1) := by decide +kernel
theorem dL_law_951 : decode cL_law 951 = .ok (.aload_n 0, 1) := by decide +kernel
theorem dL_law_952 : decode cL_law 952 = .ok (.iload_n 3, 1) := by decide +kernel
theorem dL_law_953 : decode cL_law 953 = .ok (.iconst 2, 1) := by decide +kernel
theorem dL_law_954 : decode cL_law 954 = .ok (.iadd, 1) := by decide +kernel
theorem dL_law_955 : decode cL_law 955 = .ok (.iaload, 1) := by decide +kernel
theorem dL_law_956 : decode cL_law 956 = .ok (.aload_n 0, 1) := by decide +kernel
theorem dL_law_957 : decode cL_law 957 = .ok (.iload_n 3, 1) := by decide +kernel
theorem dL_law_958 : decode cL_law 958 = .ok (.iconst 3, 1) := by decide +kernel
theorem dL_law_959 : decode cL_law 959 = .ok (.iadd, 1) := by decide +kernel
theorem dL_law_960 : decode cL_law 960 = .ok (.iaload, 1) := by decide +kernel
theorem dL_law_961 : decode cL_law 961 = .ok (.invokevirtual 130, 3) := by decide +kernel
theorem dL_law_964 : decode cL_law 964 = .ok (.pop, 1) := by decide +kernel
theorem dL_law_965 : decode cL_law 965 = .ok (.aload_n 2, 1) := by decide +kernel
theorem dL_law_966 : decode cL_law 966 = .ok (.aload_n 0, 1) := by decide +kernel
theorem dL_law_967 : decode cL_law 967 = .ok (.iload_n 3, 1) := by decide +kernel
theorem dL_law_968 : decode cL_law 968 = .ok (.iconst 1, 1) := by decide +kernel
theorem dL_law_969 : decode cL_law 969 = .ok (.iadd, 1) := by decide +kernel
theorem dL_law_970 : decode cL_law 970 = .ok (.iaload, 1) := by decide +kernel
theorem dL_law_971 : decode cL_law 971 = .ok (.aload_n 0, 1) := by decide +kernel
theorem dL_law_972 : decode cL_law 972 = .ok (.iload_n 3, 1) := by decide +kernel
theorem dL_law_973 : decode cL_law 973 = .ok (.iconst 2, 1) := by decide +kernel
theorem dL_law_974 : decode cL_law 974 = .ok (.iadd, 1) := by decide +kernel
theorem dL_law_975 : decode cL_law 975 = .ok (.iaload, 1) := by decide +kernel
theorem dL_law_976 : decode cL_law 976 = .ok (.aload_n 0, 1) := by decide +kernel
theorem dL_law_977 : decode cL_law 977 = .ok (.iload_n 3, 1) := by decide +kernel
theorem dL_law_978 : decode cL_law 978 = .ok (.iconst 3, 1) := by decide +kernel
theorem dL_law_979 : decode cL_law 979 = .ok (.iadd, 1) := by decide +kernel
theorem dL_law_980 : decode cL_law 980 = .ok (.iaload, 1) := by decide +kernel
theorem dL_law_981 : decode cL_law 981 = .ok (.invokevirtual 133, 3) := by decide +kernel
theorem dL_law_984 : decode cL_law 984 = .ok (.pop, 1) := by decide +kernel
theorem dL_law_985 : decode cL_law 985 = .ok (.goto 132, 3) := by decide +kernel
theorem dL_law_988 : decode cL_law 988 = .ok (.aload_n 1, 1) := by decide +kernel
theorem dL_law_989 : decode cL_law 989 = .ok (.aload_n 0, 1) := by decide +kernel
theorem dL_law_990 : decode cL_law 990 = .ok (.iload_n 3, 1) := by decide +kernel
theorem dL_law_991 : decode cL_law 991 = .ok (.iconst 1, 1) := by decide +kernel
theorem dL_law_992 : decode cL_law 992 = .ok (.iadd, 1) := by decide +kernel
theorem dL_law_993 : decode cL_law 993 = .ok (.iaload, 1) := by decide +kernel
theorem dL_law_994 : decode cL_law 994 = .ok (.aload_n 0, 1) := by decide +kernel
theorem dL_law_995 : decode cL_law 995 = .ok (.iload_n 3, 1) := by decide +kernel
theorem dL_law_996 : decode cL_law 996 = .ok (.iconst 2, 1) := by decide +kernel
theorem dL_law_997 : decode cL_law 997 = .ok (.iadd, 1) := by decide +kernel
theorem dL_law_998 : decode cL_law 998 = .ok (.iaload, 1) := by decide +kernel
theorem dL_law_999 : decode cL_law 999 = .ok (.aload_n 0, 1) := by decide +kernel
theorem dL_law_1000 : decode cL_law 1000 = .ok (.iload_n 3, 1) := by decide +kernel
theorem dL_law_1001 : decode cL_law 1001 = .ok (.iconst 3, 1) := by decide +kernel
theorem dL_law_1002 : decode cL_law 1002 = .ok (.iadd, 1) := by decide +kernel
theorem dL_law_1003 : decode cL_law 1003 = .ok (.iaload, 1) := by decide +kernel
theorem dL_law_1004 : decode cL_law 1004 = .ok (.invokevirtual 134, 3) := by decide +kernel
theorem dL_law_1007 : decode cL_law 1007 = .ok (.pop, 1) := by decide +kernel
theorem dL_law_1008 : decode cL_law 1008 = .ok (.aload_n 2, 1) := by decide +kernel
theorem dL_law_1009 : decode cL_law 1009 = .ok (.aload_n 0, 1) := by decide +kernel
theorem dL_law_1010 : decode cL_law 1010 = .ok (.iload_n 3, 1) := by decide +kernel
theorem dL_law_1011 : decode cL_law 1011 = .ok (.iconst 1, 1) := by decide +kernel
theorem dL_law_1012 : decode cL_law 1012 = .ok (.iadd, 1) := by decide +kernel
theorem dL_law_1013 : decode cL_law 1013 = .ok (.iaload, 1) := by decide +kernel
theorem dL_law_1014 : decode cL_law 1014 = .ok (.aload_n 0, 1) := by decide +kernel
theorem dL_law_1015 : decode cL_law 1015 = .ok (.iload_n 3, 1) := by decide +kernel
theorem dL_law_1016 : decode cL_law 1016 = .ok (.iconst 2, 1) := by decide +kernel
theorem dL_law_1017 : decode cL_law 1017 = .ok (.iadd, 1) := by decide +kernel
theorem dL_law_1018 : decode cL_law 1018 = .ok (.iaload, 1) := by decide +kernel
theorem dL_law_1019 : decode cL_law 1019 = .ok (.aload_n 0, 1) := by decide +kernel
theorem dL_law_1020 : decode cL_law 1020 = .ok (.iload_n 3, 1) := by decide +kernel
theorem dL_law_1021 : decode cL_law 1021 = .ok (.iconst 3, 1) := by decide +kernel
theorem dL_law_1022 : decode cL_law 1022 = .ok (.iadd, 1) := by decide +kernel
theorem dL_law_1023 : decode cL_law 1023 = .ok (.iaload, 1) := by decide +kernel
theorem dL_law_1024 : decode cL_law 1024 = .ok (.invokevirtual 137, 3) := by decide +kernel
theorem dL_law_1027 : decode cL_law 1027 = .ok (.pop, 1) := by decide +kernel
theorem dL_law_1028 : decode cL_law 1028 = .ok (.goto 89, 3) := by decide +kernel
theorem dL_law_1031 : decode cL_law 1031 = .ok (.aload_n 1, 1) := by decide +kernel
theorem dL_law_1032 : decode cL_law 1032 = .ok (.aload_n 0, 1) := by decide +kernel
theorem dL_law_1033 : decode cL_law 1033 = .ok (.iload_n 3, 1) := by decide +kernel
theorem dL_law_1034 : decode cL_law 1034 = .ok (.iconst 1, 1) := by decide +kernel
theorem dL_law_1035 : decode cL_law 1035 = .ok (.iadd, 1) := by decide +kernel
theorem dL_law_1036 : decode cL_law 1036 = .ok (.iaload, 1) := by decide +kernel
theorem dL_law_1037 : decode cL_law 1037 = .ok (.aload_n 0, 1) := by decide +kernel
theorem dL_law_1038 : decode cL_law 1038 = .ok (.iload_n 3, 1) := by decide +kernel
theorem dL_law_1039 : decode cL_law 1039 = .ok (.iconst 2, 1) := by decide +kernel
theorem dL_law_1040 : decode cL_law 1040 = .ok (.iadd, 1) := by decide +kernel
theorem dL_law_1041 : decode cL_law 1041 = .ok (.iaload, 1) := by decide +kernel
theorem dL_law_1042 : decode cL_law 1042 = .ok (.aload_n 0, 1) := by decide +kernel
theorem dL_law_1043 : decode cL_law 1043 = .ok (.iload_n 3, 1) := by decide +kernel
theorem dL_law_1044 : decode cL_law 1044 = .ok (.iconst 3, 1) := by decide +kernel
theorem dL_law_1045 : decode cL_law 1045 = .ok (.iadd, 1) := by decide +kernel
theorem dL_law_1046 : decode cL_law 1046 = .ok (.iaload, 1) := by decide +kernel
theorem dL_law_1047 : decode cL_law 1047 = .ok (.aload_n 0, 1) := by decide +kernel
theorem dL_law_1048 : decode cL_law 1048 = .ok (.iload_n 3, 1) := by decide +kernel
theorem dL_law_1049 : decode cL_law 1049 = .ok (.iconst 4, 1) := by decide +kernel
theorem dL_law_1050 : decode cL_law 1050 = .ok (.iadd, 1) := by decide +kernel
theorem dL_law_1051 : decode cL_law 1051 = .ok (.iaload, 1) := by decide +kernel
theorem dL_law_1052 : decode cL_law 1052 = .ok (.aload_n 0, 1) := by decide +kernel
theorem dL_law_1053 : decode cL_law 1053 = .ok (.iload_n 3, 1) := by decide +kernel
theorem dL_law_1054 : decode cL_law 1054 = .ok (.iconst 5, 1) := by decide +kernel
theorem dL_law_1055 : decode cL_law 1055 = .ok (.iadd, 1) := by decide +kernel
theorem dL_law_1056 : decode cL_law 1056 = .ok (.iaload, 1) := by decide +kernel
theorem dL_law_1057 : decode cL_law 1057 = .ok (.invokevirtual 138, 3) := by decide +kernel
theorem dL_law_1060 : decode cL_law 1060 = .ok (.pop, 1) := by decide +kernel
theorem dL_law_1061 : decode cL_law 1061 = .ok (.aload_n 2, 1) := by decide +kernel
theorem dL_law_1062 : decode cL_law 1062 = .ok (.aload_n 0, 1) := by decide +kernel
theorem dL_law_1063 : decode cL_law 1063 = .ok (.iload_n 3, 1) := by decide +kernel
theorem dL_law_1064 : decode cL_law 1064 = .ok (.iconst 1, 1) := by decide +kernel
theorem dL_law_1065 : decode cL_law 1065 = .ok (.iadd, 1) := by decide +kernel
theorem dL_law_1066 : decode cL_law 1066 = .ok (.iaload, 1) := by decide +kernel
theorem dL_law_1067 : decode cL_law 1067 = .ok (.aload_n 0, 1) := by decide +kernel
theorem dL_law_1068 : decode cL_law 1068 = .ok (.iload_n 3, 1) := by decide +kernel
theorem dL_law_1069 : decode cL_law 1069 = .ok (.iconst 2, 1) := by decide +kernel
theorem dL_law_1070 : decode cL_law 1070 = .ok (.iadd, 1) := by decide +kernel
theorem dL_law_1071 : decode cL_law 1071 = .ok (.iaload, 1) := by decide +kernel
theorem dL_law_1072 : decode cL_law 1072 = .ok (.aload_n 0, 1) := by decide +kernel
theorem dL_law_1073 : decode cL_law 1073 = .ok (.iload_n 3, 1) := by decide +kernel
theorem dL_law_1074 : decode cL_law 1074 = .ok (.iconst 3, 1) := by decide +kernel
theorem dL_law_1075 : decode cL_law 1075 = .ok (.iadd, 1) := by decide +kernel
theorem dL_law_1076 : decode cL_law 1076 = .ok (.iaload, 1) := by decide +kernel
theorem dL_law_1077 : decode cL_law 1077 = .ok (.aload_n 0, 1) := by decide +kernel
theorem dL_law_1078 : decode cL_law 1078 = .ok (.iload_n 3, 1) := by decide +kernel
theorem dL_law_1079 : decode cL_law 1079 = .ok (.iconst 4, 1) := by decide +kernel
theorem dL_law_1080 : decode cL_law 1080 = .ok (.iadd, 1) := by decide +kernel
theorem dL_law_1081 : decode cL_law 1081 = .ok (.iaload, 1) := by decide +kernel
theorem dL_law_1082 : decode cL_law 1082 = .ok (.aload_n 0, 1) := by decide +kernel
theorem dL_law_1083 : decode cL_law 1083 = .ok (.iload_n 3, 1) := by decide +kernel
theorem dL_law_1084 : decode cL_law 1084 = .ok (.iconst 5, 1) := by decide +kernel
theorem dL_law_1085 : decode cL_law 1085 = .ok (.iadd, 1) := by decide +kernel
theorem dL_law_1086 : decode cL_law 1086 = .ok (.iaload, 1) := by decide +kernel
theorem dL_law_1087 : decode cL_law 1087 = .ok (.invokevirtual 142, 3) := by decide +kernel
theorem dL_law_1090 : decode cL_law 1090 = .ok (.pop, 1) := by decide +kernel
theorem dL_law_1091 : decode cL_law 1091 = .ok (.goto 26, 3) := by decide +kernel
theorem dL_law_1094 : decode cL_law 1094 = .ok (.aload_n 1, 1) := by decide +kernel
theorem dL_law_1095 : decode cL_law 1095 = .ok (.aload_n 0, 1) := by decide +kernel
theorem dL_law_1096 : decode cL_law 1096 = .ok (.iload_n 3, 1) := by decide +kernel
theorem dL_law_1097 : decode cL_law 1097 = .ok (.iconst 1, 1) := by decide +kernel
theorem dL_law_1098 : decode cL_law 1098 = .ok (.iadd, 1) := by decide +kernel
theorem dL_law_1099 : decode cL_law 1099 = .ok (.iaload, 1) := by decide +kernel
theorem dL_law_1100 : decode cL_law 1100 = .ok (.invokevirtual 143, 3) := by decide +kernel
theorem dL_law_1103 : decode cL_law 1103 = .ok (.pop, 1) := by decide +kernel
theorem dL_law_1104 : decode cL_law 1104 = .ok (.aload_n 2, 1) := by decide +kernel
theorem dL_law_1105 : decode cL_law 1105 = .ok (.aload_n 0, 1) := by decide +kernel
theorem dL_law_1106 : decode cL_law 1106 = .ok (.iload_n 3, 1) := by decide +kernel
theorem dL_law_1107 : decode cL_law 1107 = .ok (.iconst 1, 1) := by decide +kernel
theorem dL_law_1108 : decode cL_law 1108 = .ok (.iadd, 1) := by decide +kernel
theorem dL_law_1109 : decode cL_law 1109 = .ok (.iaload, 1) := by decide +kernel
theorem dL_law_1110 : decode cL_law 1110 = .ok (.invokevirtual 146, 3) := by decide +kernel
theorem dL_law_1113 : decode cL_law 1113 = .ok (.pop, 1) := by decide +kernel
theorem dL_law_1114 : decode cL_law 1114 = .ok (.goto 3, 3) := by decide +kernel
theorem dL_law_1117 : decode cL_law 1117 = .ok (.iinc 3 6, 3) := by decide +kernel
theorem dL_law_1120 : decode cL_law 1120 = .ok (.goto (-1102), 3) := by decide +kernel
theorem dL_law_1123 : decode cL_law 1123 = .ok (.iconst 1, 1) := by decide +kernel
theorem dL_law_1124 : decode cL_law 1124 = .ok (.ireturn, 1) := by decide +kernel
