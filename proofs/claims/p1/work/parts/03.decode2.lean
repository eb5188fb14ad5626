set_option maxRecDepth 20000 in
theorem ggX4_joinPart_X3_setNumber : GoodIn wsX4_joinPart wsX3_setNumber := goodIn_r _ [14, 10, 28, 29, 30, 31, 32, 33] (by decide +kernel) (by decide +kernel)
set_option maxRecDepth 20000 in
theorem gX4_joinPart_X3_setNumber : GoodIn wsX4_joinPart (wsV RX4 147 RX3 yX3_setNumber wsX3_setNumber) := goodIn_app (goodIn_of _ (by decide +kernel)) ggX4_joinPart_X3_setNumber
theorem dX4_joinPart_0 : decode cX4_joinPart 0 = .ok (.aload_n 0, 1) := by decide +kernel
theorem dX4_joinPart_1 : decode cX4_joinPart 1 = .ok (.getfield 15, 3) := by decide +kernel
theorem dX4_joinPart_4 : decode cX4_joinPart 4 = .ok (.iload_n 1, 1) := by decide +kernel
theorem dX4_joinPart_5 : decode cX4_joinPart 5 = .ok (.bipush 7, 2) := by decide +kernel
theorem dX4_joinPart_7 : decode cX4_joinPart 7 = .ok (.aload_n 0, 1) := by decide +kernel
theorem dX4_joinPart_8 : decode cX4_joinPart 8 = .ok (.getfield 15, 3) := by decide +kernel
theorem dX4_joinPart_11 : decode cX4_joinPart 11 = .ok (.iload_n 1, 1) := by decide +kernel
theorem dX4_joinPart_12 : decode cX4_joinPart 12 = .ok (.bipush 7, 2) := by decide +kernel
theorem dX4_joinPart_14 : decode cX4_joinPart 14 = .ok (.invokevirtual 205, 3) := by decide +kernel
theorem dX4_joinPart_17 : decode cX4_joinPart 17 = .ok (.iconst 1, 1) := by decide +kernel
theorem dX4_joinPart_18 : decode cX4_joinPart 18 = .ok (.iload_n 2, 1) := by decide +kernel
theorem dX4_joinPart_19 : decode cX4_joinPart 19 = .ok (.ishl, 1) := by decide +kernel
theorem dX4_joinPart_20 : decode cX4_joinPart 20 = .ok (.ior, 1) := by decide +kernel
theorem dX4_joinPart_21 : decode cX4_joinPart 21 = .ok (.invokevirtual 147, 3) := by decide +kernel
theorem dX4_joinPart_24 : decode cX4_joinPart 24 = .ok (.iconst 0, 1) := by decide +kernel
theorem dX4_joinPart_25 : decode cX4_joinPart 25 = .ok (.istore_n 3, 1) := by decide +kernel
theorem dX4_joinPart_26 : decode cX4_joinPart 26 = .ok (.iload_n 3, 1) := by decide +kernel
theorem dX4_joinPart_27 : decode cX4_joinPart 27 = .ok (.bipush 8, 2) := by decide +kernel
theorem dX4_joinPart_29 : decode cX4_joinPart 29 = .ok (.if_icmp .ge 64, 3) := by decide +kernel
theorem dX4_joinPart_32 : decode cX4_joinPart 32 = .ok (.iload_n 2, 1) := by decide +kernel
theorem dX4_joinPart_33 : decode cX4_joinPart 33 = .ok (.getstatic 208, 3) := by decide +kernel
theorem dX4_joinPart_36 : decode cX4_joinPart 36 = .ok (.arraylength, 1) := by decide +kernel
theorem dX4_joinPart_37 : decode cX4_joinPart 37 = .ok (.if_icmp .ge 25, 3) := by decide +kernel
theorem dX4_joinPart_40 : decode cX4_joinPart 40 = .ok (.aload_n 0, 1) := by decide +kernel
theorem dX4_joinPart_41 : decode cX4_joinPart 41 = .ok (.getfield 30, 3) := by decide +kernel
theorem dX4_joinPart_44 : decode cX4_joinPart 44 = .ok (.aload_n 0, 1) := by decide +kernel
theorem dX4_joinPart_45 : decode cX4_joinPart 45 = .ok (.getfield 176, 3) := by decide +kernel
theorem dX4_joinPart_48 : decode cX4_joinPart 48 = .ok (.aaload, 1) := by decide +kernel
theorem dX4_joinPart_49 : decode cX4_joinPart 49 = .ok (.iload_n 3, 1) := by decide +kernel
theorem dX4_joinPart_50 : decode cX4_joinPart 50 = .ok (.dup2, 1) := by decide +kernel
theorem dX4_joinPart_51 : decode cX4_joinPart 51 = .ok (.laload, 1) := by decide +kernel
theorem dX4_joinPart_52 : decode cX4_joinPart 52 = .ok (.getstatic 208, 3) := by decide +kernel
theorem dX4_joinPart_55 : decode cX4_joinPart 55 = .ok (.iload_n 2, 1) := by decide +kernel
theorem dX4_joinPart_56 : decode cX4_joinPart 56 = .ok (.laload, 1) := by decide +kernel
theorem dX4_joinPart_57 : decode cX4_joinPart 57 = .ok (.land, 1) := by decide +kernel
theorem dX4_joinPart_58 : decode cX4_joinPart 58 = .ok (.lastore, 1) := by decide +kernel
theorem dX4_joinPart_59 : decode cX4_joinPart 59 = .ok (.goto 28, 3) := by decide +kernel
theorem dX4_joinPart_62 : decode cX4_joinPart 62 = .ok (.iload_n 3, 1) := by decide +kernel
theorem dX4_joinPart_63 : decode cX4_joinPart 63 = .ok (.iload_n 2, 1) := by decide +kernel
theorem dX4_joinPart_64 : decode cX4_joinPart 64 = .ok (.getstatic 208, 3) := by decide +kernel
theorem dX4_joinPart_67 : decode cX4_joinPart 67 = .ok (.arraylength, 1) := by decide +kernel
theorem dX4_joinPart_68 : decode cX4_joinPart 68 = .ok (.isub, 1) := by decide +kernel
theorem dX4_joinPart_69 : decode cX4_joinPart 69 = .ok (.ishr, 1) := by decide +kernel
theorem dX4_joinPart_70 : decode cX4_joinPart 70 = .ok (.iconst 1, 1) := by decide +kernel
theorem dX4_joinPart_71 : decode cX4_joinPart 71 = .ok (.iand, 1) := by decide +kernel
theorem dX4_joinPart_72 : decode cX4_joinPart 72 = .ok (.ifCond .ne 15, 3) := by decide +kernel
theorem dX4_joinPart_75 : decode cX4_joinPart 75 = .ok (.aload_n 0, 1) := by decide +kernel
theorem dX4_joinPart_76 : decode cX4_joinPart 76 = .ok (.getfield 30, 3) := by decide +kernel
theorem dX4_joinPart_79 : decode cX4_joinPart 79 = .ok (.aload_n 0, 1) := by decide +kernel
theorem dX4_joinPart_80 : decode cX4_joinPart 80 = .ok (.getfield 176, 3) := by decide +kernel
theorem dX4_joinPart_83 : decode cX4_joinPart 83 = .ok (.aaload, 1) := by decide +kernel
theorem dX4_joinPart_84 : decode cX4_joinPart 84 = .ok (.iload_n 3, 1) := by decide +kernel
theorem dX4_joinPart_85 : decode cX4_joinPart 85 = .ok (.lconst 0, 1) := by decide +kernel
theorem dX4_joinPart_86 : decode cX4_joinPart 86 = .ok (.lastore, 1) := by decide +kernel
theorem dX4_joinPart_87 : decode cX4_joinPart 87 = .ok (.iinc 3 1, 3) := by decide +kernel
theorem dX4_joinPart_90 : decode cX4_joinPart 90 = .ok (.goto (-64), 3) := by decide +kernel
theorem dX4_joinPart_93 : decode cX4_joinPart 93 = .ok (.return_, 1) := by decide +kernel
theorem dX4_noteUse_0 : decode cX4_noteUse 0 = .ok (.aload_n 0, 1) := by decide +kernel
theorem dX4_noteUse_1 : decode cX4_noteUse 1 = .ok (.getfield 19, 3) := by decide +kernel
theorem dX4_noteUse_4 : decode cX4_noteUse 4 = .ok (.iload_n 1, 1) := by decide +kernel
theorem dX4_noteUse_5 : decode cX4_noteUse 5 = .ok (.iaload, 1) := by decide +kernel
theorem dX4_noteUse_6 : decode cX4_noteUse 6 = .ok (.bipush (-4), 2) := by decide +kernel
theorem dX4_noteUse_8 : decode cX4_noteUse 8 = .ok (.if_icmp .ne 13, 3) := by decide +kernel
theorem dX4_noteUse_11 : decode cX4_noteUse 11 = .ok (.aload_n 0, 1) := by decide +kernel
theorem dX4_noteUse_12 : decode cX4_noteUse 12 = .ok (.getfield 19, 3) := by decide +kernel
theorem dX4_noteUse_15 : decode cX4_noteUse 15 = .ok (.iload_n 1, 1) := by decide +kernel
theorem dX4_noteUse_16 : decode cX4_noteUse 16 = .ok (.aload_n 0, 1) := by decide +kernel
theorem dX4_noteUse_17 : decode cX4_noteUse 17 = .ok (.getfield 88, 3) := by decide +kernel
theorem dX4_noteUse_20 : decode cX4_noteUse 20 = .ok (.iastore, 1) := by decide +kernel
theorem dX4_noteUse_21 : decode cX4_noteUse 21 = .ok (.return_, 1) := by decide +kernel
set_option maxRecDepth 20000 in
theorem ggX4_findNotTold_X4_refuse : GoodIn wsX4_findNotTold wsX4_refuse := goodIn_r _ [12, 13, 14, 15, 16, 17, 18, 19, 20, 21, 22, 23, 24, 25, 26, 27] (by decide +kernel) (by decide +kernel)
set_option maxRecDepth 20000 in
theorem gX4_findNotTold_X4_refuse : GoodIn wsX4_findNotTold (wsV RX4 101 RX4 yX4_refuse wsX4_refuse) := goodIn_app (goodIn_of _ (by decide +kernel)) ggX4_findNotTold_X4_refuse
theorem dX4_findNotTold_0 : decode cX4_findNotTold 0 = .ok (.sipush 400, 3) := by decide +kernel
theorem dX4_findNotTold_3 : decode cX4_findNotTold 3 = .ok (.istore_n 1, 1) := by decide +kernel
theorem dX4_findNotTold_4 : decode cX4_findNotTold 4 = .ok (.aload_n 0, 1) := by decide +kernel
theorem dX4_findNotTold_5 : decode cX4_findNotTold 5 = .ok (.getfield 15, 3) := by decide +kernel
theorem dX4_findNotTold_8 : decode cX4_findNotTold 8 = .ok (.getfield 138, 3) := by decide +kernel
theorem dX4_findNotTold_11 : decode cX4_findNotTold 11 = .ok (.istore_n 2, 1) := by decide +kernel
theorem dX4_findNotTold_12 : decode cX4_findNotTold 12 = .ok (.iload_n 2, 1) := by decide +kernel
theorem dX4_findNotTold_13 : decode cX4_findNotTold 13 = .ok (.bipush 8, 2) := by decide +kernel
theorem dX4_findNotTold_15 : decode cX4_findNotTold 15 = .ok (.if_icmp .ge 31, 3) := by decide +kernel
theorem dX4_findNotTold_18 : decode cX4_findNotTold 18 = .ok (.aload_n 0, 1) := by decide +kernel
theorem dX4_findNotTold_19 : decode cX4_findNotTold 19 = .ok (.getfield 19, 3) := by decide +kernel
theorem dX4_findNotTold_22 : decode cX4_findNotTold 22 = .ok (.iload_n 2, 1) := by decide +kernel
theorem dX4_findNotTold_23 : decode cX4_findNotTold 23 = .ok (.iaload, 1) := by decide +kernel
theorem dX4_findNotTold_24 : decode cX4_findNotTold 24 = .ok (.bipush (-4), 2) := by decide +kernel
theorem dX4_findNotTold_26 : decode cX4_findNotTold 26 = .ok (.if_icmp .eq 14, 3) := by decide +kernel
theorem dX4_findNotTold_29 : decode cX4_findNotTold 29 = .ok (.iload_n 1, 1) := by decide +kernel
theorem dX4_findNotTold_30 : decode cX4_findNotTold 30 = .ok (.aload_n 0, 1) := by decide +kernel
theorem dX4_findNotTold_31 : decode cX4_findNotTold 31 = .ok (.getfield 19, 3) := by decide +kernel
theorem dX4_findNotTold_34 : decode cX4_findNotTold 34 = .ok (.iload_n 2, 1) := by decide +kernel
theorem dX4_findNotTold_35 : decode cX4_findNotTold 35 = .ok (.iaload, 1) := by decide +kernel
theorem dX4_findNotTold_36 : decode cX4_findNotTold 36 = .ok (.invokestatic 211, 3) := by decide +kernel
theorem dX4_findNotTold_39 : decode cX4_findNotTold 39 = .ok (.istore_n 1, 1) := by decide +kernel
theorem dX4_findNotTold_40 : decode cX4_findNotTold 40 = .ok (.iinc 2 1, 3) := by decide +kernel
theorem dX4_findNotTold_43 : decode cX4_findNotTold 43 = .ok (.goto (-31), 3) := by decide +kernel
theorem dX4_findNotTold_46 : decode cX4_findNotTold 46 = .ok (.iload_n 1, 1) := by decide +kernel
theorem dX4_findNotTold_47 : decode cX4_findNotTold 47 = .ok (.sipush 400, 3) := by decide +kernel
theorem dX4_findNotTold_50 : decode cX4_findNotTold 50 = .ok (.if_icmp .ge 10, 3) := by decide +kernel
theorem dX4_findNotTold_53 : decode cX4_findNotTold 53 = .ok (.aload_n 0, 1) := by decide +kernel
theorem dX4_findNotTold_54 : decode cX4_findNotTold 54 = .ok (.bipush 6, 2) := by decide +kernel
theorem dX4_findNotTold_56 : decode cX4_findNotTold 56 = .ok (.iload_n 1, 1) := by decide +kernel
theorem dX4_findNotTold_57 : decode cX4_findNotTold 57 = .ok (.invokevirtual 101, 3) := by decide +kernel
theorem dX4_findNotTold_60 : decode cX4_findNotTold 60 = .ok (.return_, 1) := by decide +kernel
set_option maxRecDepth 20000 in
theorem ggX5_init_X2_init : GoodIn wsX5_init wsX2_init := goodIn_r _ [18, 19, 2, 3, 8, 20, 21, 22, 23, 24, 25, 26, 27] (by decide +kernel) (by decide +kernel)
set_option maxRecDepth 20000 in
theorem gX5_init_X2_init : GoodIn wsX5_init (wsX2_init) := ggX5_init_X2_init
theorem dX5_init_0 : decode cX5_init 0 = .ok (.aload_n 0, 1) := by decide +kernel
theorem dX5_init_1 : decode cX5_init 1 = .ok (.invokespecial 3, 3) := by decide +kernel
theorem dX5_init_4 : decode cX5_init 4 = .ok (.aload_n 0, 1) := by decide +kernel
theorem dX5_init_5 : decode cX5_init 5 = .ok (.new 9, 3) := by decide +kernel
theorem dX5_init_8 : decode cX5_init 8 = .ok (.dup, 1) := by decide +kernel
theorem dX5_init_9 : decode cX5_init 9 = .ok (.invokespecial 11, 3) := by decide +kernel
theorem dX5_init_12 : decode cX5_init 12 = .ok (.putfield 12, 3) := by decide +kernel
theorem dX5_init_15 : decode cX5_init 15 = .ok (.aload_n 0, 1) := by decide +kernel
theorem dX5_init_16 : decode cX5_init 16 = .ok (.bipush 8, 2) := by decide +kernel
theorem dX5_init_18 : decode cX5_init 18 = .ok (.newarray .int, 2) := by decide +kernel
theorem dX5_init_20 : decode cX5_init 20 = .ok (.putfield 18, 3) := by decide +kernel
theorem dX5_init_23 : decode cX5_init 23 = .ok (.aload_n 0, 1) := by decide +kernel
theorem dX5_init_24 : decode cX5_init 24 = .ok (.bipush 8, 2) := by decide +kernel
theorem dX5_init_26 : decode cX5_init 26 = .ok (.newarray .int, 2) := by decide +kernel
theorem dX5_init_28 : decode cX5_init 28 = .ok (.putfield 22, 3) := by decide +kernel
theorem dX5_init_31 : decode cX5_init 31 = .ok (.aload_n 0, 1) := by decide +kernel
theorem dX5_init_32 : decode cX5_init 32 = .ok (.bipush 8, 2) := by decide +kernel
theorem dX5_init_34 : decode cX5_init 34 = .ok (.newarray .int, 2) := by decide +kernel
theorem dX5_init_36 : decode cX5_init 36 = .ok (.putfield 25, 3) := by decide +kernel
theorem dX5_init_39 : decode cX5_init 39 = .ok (.aload_n 0, 1) := by decide +kernel
theorem dX5_init_40 : decode cX5_init 40 = .ok (.bipush 8, 2) := by decide +kernel
theorem dX5_init_42 : decode cX5_init 42 = .ok (.newarray .int, 2) := by decide +kernel
theorem dX5_init_44 : decode cX5_init 44 = .ok (.putfield 28, 3) := by decide +kernel
theorem dX5_init_47 : decode cX5_init 47 = .ok (.aload_n 0, 1) := by decide +kernel
theorem dX5_init_48 : decode cX5_init 48 = .ok (.bipush 8, 2) := by decide +kernel
theorem dX5_init_50 : decode cX5_init 50 = .ok (.newarray .int, 2) := by decide +kernel
theorem dX5_init_52 : decode cX5_init 52 = .ok (.putfield 31, 3) := by decide +kernel
theorem dX5_init_55 : decode cX5_init 55 = .ok (.aload_n 0, 1) := by decide +kernel
theorem dX5_init_56 : decode cX5_init 56 = .ok (.iconst 0, 1) := by decide +kernel
theorem dX5_init_57 : decode cX5_init 57 = .ok (.putfield 34, 3) := by decide +kernel
theorem dX5_init_60 : decode cX5_init 60 = .ok (.aload_n 0, 1) := by decide +kernel
theorem dX5_init_61 : decode cX5_init 61 = .ok (.iconst 0, 1) := by decide +kernel
theorem dX5_init_62 : decode cX5_init 62 = .ok (.putfield 38, 3) := by decide +kernel
theorem dX5_init_65 : decode cX5_init 65 = .ok (.return_, 1) := by decide +kernel
set_option maxRecDepth 20000 in
theorem ggX5_reset_X3_number : GoodIn wsX5_reset wsX3_number := goodIn_r _ [21, 22, 41, 42, 43, 44, 45, 46] (by decide +kernel) (by decide +kernel)
set_option maxRecDepth 20000 in
theorem gX5_reset_X3_number : GoodIn wsX5_reset (wsV RX5 47 RX3 yX3_number wsX3_number) := goodIn_app (goodIn_of _ (by decide +kernel)) ggX5_reset_X3_number
theorem dX5_reset_0 : decode cX5_reset 0 = .ok (.aload_n 0, 1) := by decide +kernel
theorem dX5_reset_1 : decode cX5_reset 1 = .ok (.getfield 12, 3) := by decide +kernel
theorem dX5_reset_4 : decode cX5_reset 4 = .ok (.iconst 0, 1) := by decide +kernel
theorem dX5_reset_5 : decode cX5_reset 5 = .ok (.putfield 42, 3) := by decide +kernel
theorem dX5_reset_8 : decode cX5_reset 8 = .ok (.iconst 0, 1) := by decide +kernel
theorem dX5_reset_9 : decode cX5_reset 9 = .ok (.istore_n 2, 1) := by decide +kernel
theorem dX5_reset_10 : decode cX5_reset 10 = .ok (.iload_n 2, 1) := by decide +kernel
theorem dX5_reset_11 : decode cX5_reset 11 = .ok (.bipush 8, 2) := by decide +kernel
theorem dX5_reset_13 : decode cX5_reset 13 = .ok (.if_icmp .ge 49, 3) := by decide +kernel
theorem dX5_reset_16 : decode cX5_reset 16 = .ok (.aload_n 0, 1) := by decide +kernel
theorem dX5_reset_17 : decode cX5_reset 17 = .ok (.getfield 18, 3) := by decide +kernel
theorem dX5_reset_20 : decode cX5_reset 20 = .ok (.iload_n 2, 1) := by decide +kernel
theorem dX5_reset_21 : decode cX5_reset 21 = .ok (.iconst 0, 1) := by decide +kernel
theorem dX5_reset_22 : decode cX5_reset 22 = .ok (.iastore, 1) := by decide +kernel
theorem dX5_reset_23 : decode cX5_reset 23 = .ok (.aload_n 0, 1) := by decide +kernel
theorem dX5_reset_24 : decode cX5_reset 24 = .ok (.getfield 22, 3) := by decide +kernel
theorem dX5_reset_27 : decode cX5_reset 27 = .ok (.iload_n 2, 1) := by decide +kernel
theorem dX5_reset_28 : decode cX5_reset 28 = .ok (.iconst 0, 1) := by decide +kernel
theorem dX5_reset_29 : decode cX5_reset 29 = .ok (.iastore, 1) := by decide +kernel
theorem dX5_reset_30 : decode cX5_reset 30 = .ok (.aload_n 0, 1) := by decide +kernel
theorem dX5_reset_31 : decode cX5_reset 31 = .ok (.getfield 25, 3) := by decide +kernel
theorem dX5_reset_34 : decode cX5_reset 34 = .ok (.iload_n 2, 1) := by decide +kernel
theorem dX5_reset_35 : decode cX5_reset 35 = .ok (.iconst 0, 1) := by decide +kernel
theorem dX5_reset_36 : decode cX5_reset 36 = .ok (.iastore, 1) := by decide +kernel
theorem dX5_reset_37 : decode cX5_reset 37 = .ok (.aload_n 0, 1) := by decide +kernel
theorem dX5_reset_38 : decode cX5_reset 38 = .ok (.getfield 28, 3) := by decide +kernel
theorem dX5_reset_41 : decode cX5_reset 41 = .ok (.iload_n 2, 1) := by decide +kernel
theorem dX5_reset_42 : decode cX5_reset 42 = .ok (.aload_n 1, 1) := by decide +kernel
theorem dX5_reset_43 : decode cX5_reset 43 = .ok (.iload_n 2, 1) := by decide +kernel
theorem dX5_reset_44 : decode cX5_reset 44 = .ok (.iconst 0, 1) := by decide +kernel
theorem dX5_reset_45 : decode cX5_reset 45 = .ok (.invokevirtual 47, 3) := by decide +kernel
theorem dX5_reset_48 : decode cX5_reset 48 = .ok (.iastore, 1) := by decide +kernel
theorem dX5_reset_49 : decode cX5_reset 49 = .ok (.aload_n 0, 1) := by decide +kernel
theorem dX5_reset_50 : decode cX5_reset 50 = .ok (.getfield 31, 3) := by decide +kernel
theorem dX5_reset_53 : decode cX5_reset 53 = .ok (.iload_n 2, 1) := by decide +kernel
theorem dX5_reset_54 : decode cX5_reset 54 = .ok (.iconst 0, 1) := by decide +kernel
theorem dX5_reset_55 : decode cX5_reset 55 = .ok (.iastore, 1) := by decide +kernel
theorem dX5_reset_56 : decode cX5_reset 56 = .ok (.iinc 2 1, 3) := by decide +kernel
theorem dX5_reset_59 : decode cX5_reset 59 = .ok (.goto (-49), 3) := by decide +kernel
theorem dX5_reset_62 : decode cX5_reset 62 = .ok (.aload_n 0, 1) := by decide +kernel
theorem dX5_reset_63 : decode cX5_reset 63 = .ok (.iconst 0, 1) := by decide +kernel
theorem dX5_reset_64 : decode cX5_reset 64 = .ok (.putfield 34, 3) := by decide +kernel
theorem dX5_reset_67 : decode cX5_reset 67 = .ok (.aload_n 0, 1) := by decide +kernel
theorem dX5_reset_68 : decode cX5_reset 68 = .ok (.iconst 0, 1) := by decide +kernel
theorem dX5_reset_69 : decode cX5_reset 69 = .ok (.putfield 38, 3) := by decide +kernel
theorem dX5_reset_72 : decode cX5_reset 72 = .ok (.aload_n 0, 1) := by decide +kernel
theorem dX5_reset_73 : decode cX5_reset 73 = .ok (.iconst 0, 1) := by decide +kernel
theorem dX5_reset_74 : decode cX5_reset 74 = .ok (.putfield 51, 3) := by decide +kernel
theorem dX5_reset_77 : decode cX5_reset 77 = .ok (.aload_n 0, 1) := by decide +kernel
theorem dX5_reset_78 : decode cX5_reset 78 = .ok (.iconst 0, 1) := by decide +kernel
theorem dX5_reset_79 : decode cX5_reset 79 = .ok (.putfield 54, 3) := by decide +kernel
theorem dX5_reset_82 : decode cX5_reset 82 = .ok (.aload_n 0, 1) := by decide +kernel
theorem dX5_reset_83 : decode cX5_reset 83 = .ok (.aload_n 1, 1) := by decide +kernel
theorem dX5_reset_84 : decode cX5_reset 84 = .ok (.getfield 57, 3) := by decide +kernel
theorem dX5_reset_87 : decode cX5_reset 87 = .ok (.putfield 60, 3) := by decide +kernel
theorem dX5_reset_90 : decode cX5_reset 90 = .ok (.aload_n 0, 1) := by decide +kernel
theorem dX5_reset_91 : decode cX5_reset 91 = .ok (.iconst 0, 1) := by decide +kernel
theorem dX5_reset_92 : decode cX5_reset 92 = .ok (.putfield 63, 3) := by decide +kernel
theorem dX5_reset_95 : decode cX5_reset 95 = .ok (.aload_n 0, 1) := by decide +kernel
theorem dX5_reset_96 : decode cX5_reset 96 = .ok (.iconst 0, 1) := by decide +kernel
theorem dX5_reset_97 : decode cX5_reset 97 = .ok (.putfield 66, 3) := by decide +kernel
theorem dX5_reset_100 : decode cX5_reset 100 = .ok (.aload_n 0, 1) := by decide +kernel
theorem dX5_reset_101 : decode cX5_reset 101 = .ok (.iconst 0, 1) := by decide +kernel
theorem dX5_reset_102 : decode cX5_reset 102 = .ok (.putfield 69, 3) := by decide +kernel
theorem dX5_reset_105 : decode cX5_reset 105 = .ok (.return_, 1) := by decide +kernel
theorem dX5_turnKey_0 : decode cX5_turnKey 0 = .ok (.aload_n 0, 1) := by decide +kernel
theorem dX5_turnKey_1 : decode cX5_turnKey 1 = .ok (.iload_n 2, 1) := by decide +kernel
theorem dX5_turnKey_2 : decode cX5_turnKey 2 = .ok (.putfield 38, 3) := by decide +kernel
theorem dX5_turnKey_5 : decode cX5_turnKey 5 = .ok (.iload_n 2, 1) := by decide +kernel
theorem dX5_turnKey_6 : decode cX5_turnKey 6 = .ok (.ifCond .ne 25, 3) := by decide +kernel
theorem dX5_turnKey_9 : decode cX5_turnKey 9 = .ok (.aload_n 0, 1) := by decide +kernel
theorem dX5_turnKey_10 : decode cX5_turnKey 10 = .ok (.aload_n 1, 1) := by decide +kernel
theorem dX5_turnKey_11 : decode cX5_turnKey 11 = .ok (.getfield 57, 3) := by decide +kernel
theorem dX5_turnKey_14 : decode cX5_turnKey 14 = .ok (.putfield 60, 3) := by decide +kernel
theorem dX5_turnKey_17 : decode cX5_turnKey 17 = .ok (.aload_n 0, 1) := by decide +kernel
theorem dX5_turnKey_18 : decode cX5_turnKey 18 = .ok (.getfield 54, 3) := by decide +kernel
theorem dX5_turnKey_21 : decode cX5_turnKey 21 = .ok (.bipush (-4), 2) := by decide +kernel
theorem dX5_turnKey_23 : decode cX5_turnKey 23 = .ok (.if_icmp .ne 8, 3) := by decide +kernel
theorem dX5_turnKey_26 : decode cX5_turnKey 26 = .ok (.aload_n 0, 1) := by decide +kernel
theorem dX5_turnKey_27 : decode cX5_turnKey 27 = .ok (.iconst 0, 1) := by decide +kernel
theorem dX5_turnKey_28 : decode cX5_turnKey 28 = .ok (.putfield 54, 3) := by decide +kernel
theorem dX5_turnKey_31 : decode cX5_turnKey 31 = .ok (.return_, 1) := by decide +kernel
theorem dX5_railsThatAre_0 : decode cX5_railsThatAre 0 = .ok (.iconst 0, 1) := by decide +kernel
theorem dX5_railsThatAre_1 : decode cX5_railsThatAre 1 = .ok (.istore_n 2, 1) := by decide +kernel
theorem dX5_railsThatAre_2 : decode cX5_railsThatAre 2 = .ok (.iconst 0, 1) := by decide +kernel
theorem dX5_railsThatAre_3 : decode cX5_railsThatAre 3 = .ok (.istore_n 3, 1) := by decide +kernel
theorem dX5_railsThatAre_4 : decode cX5_railsThatAre 4 = .ok (.iload_n 3, 1) := by decide +kernel
theorem dX5_railsThatAre_5 : decode cX5_railsThatAre 5 = .ok (.bipush 8, 2) := by decide +kernel
theorem dX5_railsThatAre_7 : decode cX5_railsThatAre 7 = .ok (.if_icmp .ge 25, 3) := by decide +kernel
theorem dX5_railsThatAre_10 : decode cX5_railsThatAre 10 = .ok (.aload_n 0, 1) := by decide +kernel
theorem dX5_railsThatAre_11 : decode cX5_railsThatAre 11 = .ok (.getfield 18, 3) := by decide +kernel
theorem dX5_railsThatAre_14 : decode cX5_railsThatAre 14 = .ok (.iload_n 3, 1) := by decide +kernel
theorem dX5_railsThatAre_15 : decode cX5_railsThatAre 15 = .ok (.iaload, 1) := by decide +kernel
theorem dX5_railsThatAre_16 : decode cX5_railsThatAre 16 = .ok (.iload_n 1, 1) := by decide +kernel
theorem dX5_railsThatAre_17 : decode cX5_railsThatAre 17 = .ok (.if_icmp .ne 9, 3) := by decide +kernel
theorem dX5_railsThatAre_20 : decode cX5_railsThatAre 20 = .ok (.iload_n 2, 1) := by decide +kernel
theorem dX5_railsThatAre_21 : decode cX5_railsThatAre 21 = .ok (.iconst 1, 1) := by decide +kernel
theorem dX5_railsThatAre_22 : decode cX5_railsThatAre 22 = .ok (.iload_n 3, 1) := by decide +kernel
theorem dX5_railsThatAre_23 : decode cX5_railsThatAre 23 = .ok (.ishl, 1) := by decide +kernel
theorem dX5_railsThatAre_24 : decode cX5_railsThatAre 24 = .ok (.ior, 1) := by decide +kernel
theorem dX5_railsThatAre_25 : decode cX5_railsThatAre 25 = .ok (.istore_n 2, 1) := by decide +kernel
theorem dX5_railsThatAre_26 : decode cX5_railsThatAre 26 = .ok (.iinc 3 1, 3) := by decide +kernel
theorem dX5_railsThatAre_29 : decode cX5_railsThatAre 29 = .ok (.goto (-25), 3) := by decide +kernel
theorem dX5_railsThatAre_32 : decode cX5_railsThatAre 32 = .ok (.iload_n 2, 1) := by decide +kernel
theorem dX5_railsThatAre_33 : decode cX5_railsThatAre 33 = .ok (.ireturn, 1) := by decide +kernel
set_option maxRecDepth 20000 in
theorem ggX5_passTick_X5_settle : GoodIn wsX5_passTick wsX5_settle := goodIn_r _ [11, 12, 13, 14, 10, 15, 16, 17, 18, 19, 20, 21, 22, 23, 24, 25, 26, 27, 28, 29, 30, 31, 32, 33, 34, 35, 36, 37, 38, 39, 40, 41, 42, 43, 44, 45, 46, 47, 48, 49, 50, 51, 52, 53, 54, 55, 56, 57, 58, 59, 60, 61, 62, 83, 84, 85, 86, 87, 88, 89, 90, 91, 92, 93, 94, 95, 96, 97, 98, 99, 100, 101, 102, 103, 104, 105, 106] (by decide +kernel) (by decide +kernel)
set_option maxRecDepth 20000 in
theorem gX5_passTick_X5_settle : GoodIn wsX5_passTick (wsV RX5 72 RX5 yX5_settle wsX5_settle) := goodIn_app (goodIn_of _ (by decide +kernel)) ggX5_passTick_X5_settle
set_option maxRecDepth 20000 in
theorem ggX5_passTick_X5_sumDraw : GoodIn wsX5_passTick wsX5_sumDraw := goodIn_r _ [66, 18, 23, 41, 42, 43, 27, 44, 45, 97, 98, 99, 100, 101, 102, 83, 84, 85, 86, 87, 88, 89, 90, 91, 92, 93, 94, 95, 96] (by decide +kernel) (by decide +kernel)
set_option maxRecDepth 20000 in
theorem gX5_passTick_X5_sumDraw : GoodIn wsX5_passTick (wsV RX5 76 RX5 yX5_sumDraw wsX5_sumDraw) := goodIn_app (goodIn_of _ (by decide +kernel)) ggX5_passTick_X5_sumDraw
set_option maxRecDepth 20000 in
theorem ggX5_passTick_X5_whyTrip : GoodIn wsX5_passTick wsX5_whyTrip := goodIn_r _ [70, 1, 71, 18, 23, 50, 41, 42, 43, 27, 44, 45, 83, 84, 85, 86, 87, 88, 89, 90, 91, 92, 93, 94, 95, 96, 97, 98, 99, 100, 101, 102] (by decide +kernel) (by decide +kernel)
set_option maxRecDepth 20000 in
theorem gX5_passTick_X5_whyTrip : GoodIn wsX5_passTick (wsV RX5 85 RX5 yX5_whyTrip wsX5_whyTrip) := goodIn_app (goodIn_of _ (by decide +kernel)) ggX5_passTick_X5_whyTrip
set_option maxRecDepth 20000 in
theorem ggX5_passTick_X5_trip : GoodIn wsX5_passTick wsX5_trip := goodIn_r _ [75, 76, 52, 53, 77, 78, 16, 54, 55, 56, 57, 58, 59, 60, 61, 62, 83, 84, 85, 86, 87, 88, 89, 90, 91, 92, 93, 94, 95, 96, 97, 98, 99, 100, 101, 102, 103, 104, 105, 106] (by decide +kernel) (by decide +kernel)
set_option maxRecDepth 20000 in
theorem gX5_passTick_X5_trip : GoodIn wsX5_passTick (wsV RX5 88 RX5 yX5_trip wsX5_trip) := goodIn_app (goodIn_of _ (by decide +kernel)) ggX5_passTick_X5_trip
set_option maxRecDepth 20000 in
theorem ggX5_passTick_X5_growOlder : GoodIn wsX5_passTick wsX5_growOlder := goodIn_r _ [82, 18, 39, 50, 53, 16, 97, 98, 99, 100, 101, 102, 83, 84, 85, 86, 87, 88, 89, 90, 91, 92, 93, 94, 95, 96] (by decide +kernel) (by decide +kernel)
set_option maxRecDepth 20000 in
theorem gX5_passTick_X5_growOlder : GoodIn wsX5_passTick (wsV RX5 92 RX5 yX5_growOlder wsX5_growOlder) := goodIn_app (goodIn_of _ (by decide +kernel)) ggX5_passTick_X5_growOlder
theorem dX5_passTick_0 : decode cX5_passTick 0 = .ok (.aload_n 0, 1) := by decide +kernel
theorem dX5_passTick_1 : decode cX5_passTick 1 = .ok (.aload_n 1, 1) := by decide +kernel
theorem dX5_passTick_2 : decode cX5_passTick 2 = .ok (.invokevirtual 72, 3) := by decide +kernel
theorem dX5_passTick_5 : decode cX5_passTick 5 = .ok (.aload_n 0, 1) := by decide +kernel
theorem dX5_passTick_6 : decode cX5_passTick 6 = .ok (.aload_n 0, 1) := by decide +kernel
theorem dX5_passTick_7 : decode cX5_passTick 7 = .ok (.aload_n 1, 1) := by decide +kernel
theorem dX5_passTick_8 : decode cX5_passTick 8 = .ok (.invokevirtual 76, 3) := by decide +kernel
theorem dX5_passTick_11 : decode cX5_passTick 11 = .ok (.putfield 66, 3) := by decide +kernel
theorem dX5_passTick_14 : decode cX5_passTick 14 = .ok (.aload_n 0, 1) := by decide +kernel
theorem dX5_passTick_15 : decode cX5_passTick 15 = .ok (.aload_n 0, 1) := by decide +kernel
theorem dX5_passTick_16 : decode cX5_passTick 16 = .ok (.getfield 69, 3) := by decide +kernel
theorem dX5_passTick_19 : decode cX5_passTick 19 = .ok (.aload_n 0, 1) := by decide +kernel
theorem dX5_passTick_20 : decode cX5_passTick 20 = .ok (.getfield 66, 3) := by decide +kernel
theorem dX5_passTick_23 : decode cX5_passTick 23 = .ok (.invokestatic 80, 3) := by decide +kernel
theorem dX5_passTick_26 : decode cX5_passTick 26 = .ok (.putfield 69, 3) := by decide +kernel
theorem dX5_passTick_29 : decode cX5_passTick 29 = .ok (.aload_n 0, 1) := by decide +kernel
theorem dX5_passTick_30 : decode cX5_passTick 30 = .ok (.aload_n 1, 1) := by decide +kernel
theorem dX5_passTick_31 : decode cX5_passTick 31 = .ok (.invokevirtual 85, 3) := by decide +kernel
theorem dX5_passTick_34 : decode cX5_passTick 34 = .ok (.istore_n 2, 1) := by decide +kernel
theorem dX5_passTick_35 : decode cX5_passTick 35 = .ok (.iload_n 2, 1) := by decide +kernel
theorem dX5_passTick_36 : decode cX5_passTick 36 = .ok (.ifCond .eq 14, 3) := by decide +kernel
theorem dX5_passTick_39 : decode cX5_passTick 39 = .ok (.aload_n 0, 1) := by decide +kernel
theorem dX5_passTick_40 : decode cX5_passTick 40 = .ok (.aload_n 1, 1) := by decide +kernel
theorem dX5_passTick_41 : decode cX5_passTick 41 = .ok (.iload_n 2, 1) := by decide +kernel
theorem dX5_passTick_42 : decode cX5_passTick 42 = .ok (.invokevirtual 88, 3) := by decide +kernel
theorem dX5_passTick_45 : decode cX5_passTick 45 = .ok (.aload_n 0, 1) := by decide +kernel
theorem dX5_passTick_46 : decode cX5_passTick 46 = .ok (.aload_n 1, 1) := by decide +kernel
theorem dX5_passTick_47 : decode cX5_passTick 47 = .ok (.invokevirtual 72, 3) := by decide +kernel
theorem dX5_passTick_50 : decode cX5_passTick 50 = .ok (.aload_n 0, 1) := by decide +kernel
theorem dX5_passTick_51 : decode cX5_passTick 51 = .ok (.aload_n 1, 1) := by decide +kernel
theorem dX5_passTick_52 : decode cX5_passTick 52 = .ok (.invokevirtual 92, 3) := by decide +kernel
theorem dX5_passTick_55 : decode cX5_passTick 55 = .ok (.return_, 1) := by decide +kernel
set_option maxRecDepth 20000 in
theorem ggX5_settle_X5_railsThatMay : GoodIn wsX5_settle wsX5_railsThatMay := goodIn_r _ [5, 6, 7, 8, 9, 10, 11, 4, 12, 13, 14, 15, 16, 17, 18, 19, 53, 54, 55, 56, 57, 58, 59, 60, 61, 62, 63, 64, 65, 66, 67, 68, 69, 70, 71, 72] (by decide +kernel) (by decide +kernel)
set_option maxRecDepth 20000 in
theorem gX5_settle_X5_railsThatMay : GoodIn wsX5_settle (wsV RX5 95 RX5 yX5_railsThatMay wsX5_railsThatMay) := goodIn_app (goodIn_of _ (by decide +kernel)) ggX5_settle_X5_railsThatMay
set_option maxRecDepth 20000 in
theorem ggX5_settle_X5_changeRails : GoodIn wsX5_settle wsX5_changeRails := goodIn_r _ [23, 8, 13, 24, 25, 26, 4, 27, 28, 29, 30, 31, 32, 33, 17, 34, 35, 36, 37, 38, 39, 40, 41, 42, 43, 44, 45, 46, 47, 48, 49, 50, 51, 52, 67, 68, 69, 70, 71, 72, 53, 54, 55, 56, 57, 58, 59, 60, 61, 62, 63, 64, 65, 66, 73, 74, 75, 76] (by decide +kernel) (by decide +kernel)
set_option maxRecDepth 20000 in
theorem gX5_settle_X5_changeRails : GoodIn wsX5_settle (wsV RX5 98 RX5 yX5_changeRails wsX5_changeRails) := goodIn_app (goodIn_of _ (by decide +kernel)) ggX5_settle_X5_changeRails
theorem dX5_settle_0 : decode cX5_settle 0 = .ok (.iconst 1, 1) := by decide +kernel
theorem dX5_settle_1 : decode cX5_settle 1 = .ok (.istore_n 2, 1) := by decide +kernel
theorem dX5_settle_2 : decode cX5_settle 2 = .ok (.iconst 0, 1) := by decide +kernel
theorem dX5_settle_3 : decode cX5_settle 3 = .ok (.istore_n 3, 1) := by decide +kernel
theorem dX5_settle_4 : decode cX5_settle 4 = .ok (.iload_n 3, 1) := by decide +kernel
theorem dX5_settle_5 : decode cX5_settle 5 = .ok (.sipush 1000, 3) := by decide +kernel
theorem dX5_settle_8 : decode cX5_settle 8 = .ok (.if_icmp .ge 24, 3) := by decide +kernel
theorem dX5_settle_11 : decode cX5_settle 11 = .ok (.iload_n 2, 1) := by decide +kernel
theorem dX5_settle_12 : decode cX5_settle 12 = .ok (.ifCond .eq 20, 3) := by decide +kernel
theorem dX5_settle_15 : decode cX5_settle 15 = .ok (.aload_n 0, 1) := by decide +kernel
theorem dX5_settle_16 : decode cX5_settle 16 = .ok (.aload_n 1, 1) := by decide +kernel
theorem dX5_settle_17 : decode cX5_settle 17 = .ok (.aload_n 0, 1) := by decide +kernel
theorem dX5_settle_18 : decode cX5_settle 18 = .ok (.aload_n 1, 1) := by decide +kernel
theorem dX5_settle_19 : decode cX5_settle 19 = .ok (.invokevirtual 95, 3) := by decide +kernel
theorem dX5_settle_22 : decode cX5_settle 22 = .ok (.invokevirtual 98, 3) := by decide +kernel
theorem dX5_settle_25 : decode cX5_settle 25 = .ok (.istore_n 2, 1) := by decide +kernel
theorem dX5_settle_26 : decode cX5_settle 26 = .ok (.iinc 3 1, 3) := by decide +kernel
theorem dX5_settle_29 : decode cX5_settle 29 = .ok (.goto (-25), 3) := by decide +kernel
theorem dX5_settle_32 : decode cX5_settle 32 = .ok (.return_, 1) := by decide +kernel
set_option maxRecDepth 20000 in
theorem ggX5_railsThatMay_X5_railsThatAre : GoodIn wsX5_railsThatMay wsX5_railsThatAre := goodIn_r _ [8, 9, 16, 17, 18, 19, 20, 21, 22, 23, 24, 25, 26, 27, 28, 29] (by decide +kernel) (by decide +kernel)
set_option maxRecDepth 20000 in
theorem gX5_railsThatMay_X5_railsThatAre : GoodIn wsX5_railsThatMay (wsV RX5 102 RX5 yX5_railsThatAre wsX5_railsThatAre) := goodIn_app (goodIn_of _ (by decide +kernel)) ggX5_railsThatMay_X5_railsThatAre
set_option maxRecDepth 20000 in
theorem ggX5_railsThatMay_X3_holdsWith : GoodIn wsX5_railsThatMay wsX3_holdsWith := goodIn_r _ [14, 15, 30, 31, 32, 33, 34, 35] (by decide +kernel) (by decide +kernel)
set_option maxRecDepth 20000 in
theorem gX5_railsThatMay_X3_holdsWith : GoodIn wsX5_railsThatMay (wsV RX5 109 RX3 yX3_holdsWith wsX3_holdsWith) := goodIn_app (goodIn_of _ (by decide +kernel)) ggX5_railsThatMay_X3_holdsWith
theorem dX5_railsThatMay_0 : decode cX5_railsThatMay 0 = .ok (.aload_n 0, 1) := by decide +kernel
theorem dX5_railsThatMay_1 : decode cX5_railsThatMay 1 = .ok (.getfield 54, 3) := by decide +kernel
theorem dX5_railsThatMay_4 : decode cX5_railsThatMay 4 = .ok (.ifCond .eq 5, 3) := by decide +kernel
theorem dX5_railsThatMay_7 : decode cX5_railsThatMay 7 = .ok (.iconst 0, 1) := by decide +kernel
theorem dX5_railsThatMay_8 : decode cX5_railsThatMay 8 = .ok (.ireturn, 1) := by decide +kernel
theorem dX5_railsThatMay_9 : decode cX5_railsThatMay 9 = .ok (.aload_n 0, 1) := by decide +kernel
theorem dX5_railsThatMay_10 : decode cX5_railsThatMay 10 = .ok (.iconst 3, 1) := by decide +kernel
theorem dX5_railsThatMay_11 : decode cX5_railsThatMay 11 = .ok (.invokevirtual 102, 3) := by decide +kernel
theorem dX5_railsThatMay_14 : decode cX5_railsThatMay 14 = .ok (.aload_n 0, 1) := by decide +kernel
theorem dX5_railsThatMay_15 : decode cX5_railsThatMay 15 = .ok (.getfield 38, 3) := by decide +kernel
theorem dX5_railsThatMay_18 : decode cX5_railsThatMay 18 = .ok (.ifCond .eq 9, 3) := by decide +kernel
theorem dX5_railsThatMay_21 : decode cX5_railsThatMay 21 = .ok (.sipush 256, 3) := by decide +kernel
theorem dX5_railsThatMay_24 : decode cX5_railsThatMay 24 = .ok (.goto 4, 3) := by decide +kernel
theorem dX5_railsThatMay_27 : decode cX5_railsThatMay 27 = .ok (.iconst 0, 1) := by decide +kernel
theorem dX5_railsThatMay_28 : decode cX5_railsThatMay 28 = .ok (.ior, 1) := by decide +kernel
theorem dX5_railsThatMay_29 : decode cX5_railsThatMay 29 = .ok (.istore_n 2, 1) := by decide +kernel
theorem dX5_railsThatMay_30 : decode cX5_railsThatMay 30 = .ok (.iconst 0, 1) := by decide +kernel
theorem dX5_railsThatMay_31 : decode cX5_railsThatMay 31 = .ok (.istore_n 3, 1) := by decide +kernel
theorem dX5_railsThatMay_32 : decode cX5_railsThatMay 32 = .ok (.iconst 0, 1) := by decide +kernel
theorem dX5_railsThatMay_33 : decode cX5_railsThatMay 33 = .ok (.istore 4, 2) := by decide +kernel
theorem dX5_railsThatMay_35 : decode cX5_railsThatMay 35 = .ok (.iload 4, 2) := by decide +kernel
theorem dX5_railsThatMay_37 : decode cX5_railsThatMay 37 = .ok (.aload_n 1, 1) := by decide +kernel
theorem dX5_railsThatMay_38 : decode cX5_railsThatMay 38 = .ok (.getfield 106, 3) := by decide +kernel
theorem dX5_railsThatMay_41 : decode cX5_railsThatMay 41 = .ok (.if_icmp .ge 26, 3) := by decide +kernel
theorem dX5_railsThatMay_44 : decode cX5_railsThatMay 44 = .ok (.aload_n 1, 1) := by decide +kernel
theorem dX5_railsThatMay_45 : decode cX5_railsThatMay 45 = .ok (.iload 4, 2) := by decide +kernel
theorem dX5_railsThatMay_47 : decode cX5_railsThatMay 47 = .ok (.iload_n 2, 1) := by decide +kernel
theorem dX5_railsThatMay_48 : decode cX5_railsThatMay 48 = .ok (.invokevirtual 109, 3) := by decide +kernel
theorem dX5_railsThatMay_51 : decode cX5_railsThatMay 51 = .ok (.ifCond .eq 10, 3) := by decide +kernel
theorem dX5_railsThatMay_54 : decode cX5_railsThatMay 54 = .ok (.iload_n 3, 1) := by decide +kernel
theorem dX5_railsThatMay_55 : decode cX5_railsThatMay 55 = .ok (.iconst 1, 1) := by decide +kernel
theorem dX5_railsThatMay_56 : decode cX5_railsThatMay 56 = .ok (.iload 4, 2) := by decide +kernel
theorem dX5_railsThatMay_58 : decode cX5_railsThatMay 58 = .ok (.ishl, 1) := by decide +kernel
theorem dX5_railsThatMay_59 : decode cX5_railsThatMay 59 = .ok (.ior, 1) := by decide +kernel
theorem dX5_railsThatMay_60 : decode cX5_railsThatMay 60 = .ok (.istore_n 3, 1) := by decide +kernel
theorem dX5_railsThatMay_61 : decode cX5_railsThatMay 61 = .ok (.iinc 4 1, 3) := by decide +kernel
theorem dX5_railsThatMay_64 : decode cX5_railsThatMay 64 = .ok (.goto (-29), 3) := by decide +kernel
theorem dX5_railsThatMay_67 : decode cX5_railsThatMay 67 = .ok (.iload_n 3, 1) := by decide +kernel
theorem dX5_railsThatMay_68 : decode cX5_railsThatMay 68 = .ok (.ireturn, 1) := by decide +kernel
set_option maxRecDepth 20000 in
theorem ggX5_changeRails_X5_nextState : GoodIn wsX5_changeRails wsX5_nextState := goodIn_r _ [7, 8, 2, 9, 10, 11, 12, 13, 14, 15, 16, 40, 41, 42, 43, 44, 45, 46, 47, 48, 49, 50, 51, 52, 53, 34, 35, 36, 37, 38, 39] (by decide +kernel) (by decide +kernel)
set_option maxRecDepth 20000 in
theorem gX5_changeRails_X5_nextState : GoodIn wsX5_changeRails (wsV RX5 113 RX5 yX5_nextState wsX5_nextState) := goodIn_app (goodIn_of _ (by decide +kernel)) ggX5_changeRails_X5_nextState
set_option maxRecDepth 20000 in
theorem ggX5_changeRails_X5_become : GoodIn wsX5_changeRails wsX5_become := goodIn_r _ [20, 2, 9, 21, 22, 23, 24, 25, 26, 27, 28, 29, 30, 31, 32, 33, 40, 41, 42, 43, 44, 45, 46, 47, 48, 49, 50, 51, 52, 53, 54, 55, 56, 57] (by decide +kernel) (by decide +kernel)
set_option maxRecDepth 20000 in
theorem gX5_changeRails_X5_become : GoodIn wsX5_changeRails (wsV RX5 117 RX5 yX5_become wsX5_become) := goodIn_app (goodIn_of _ (by decide +kernel)) ggX5_changeRails_X5_become
theorem dX5_changeRails_0 : decode cX5_changeRails 0 = .ok (.iconst 0, 1) := by decide +kernel
theorem dX5_changeRails_1 : decode cX5_changeRails 1 = .ok (.istore_n 3, 1) := by decide +kernel
theorem dX5_changeRails_2 : decode cX5_changeRails 2 = .ok (.iconst 0, 1) := by decide +kernel
theorem dX5_changeRails_3 : decode cX5_changeRails 3 = .ok (.istore 4, 2) := by decide +kernel
theorem dX5_changeRails_5 : decode cX5_changeRails 5 = .ok (.iload 4, 2) := by decide +kernel
theorem dX5_changeRails_7 : decode cX5_changeRails 7 = .ok (.aload_n 1, 1) := by decide +kernel
theorem dX5_changeRails_8 : decode cX5_changeRails 8 = .ok (.getfield 106, 3) := by decide +kernel
theorem dX5_changeRails_11 : decode cX5_changeRails 11 = .ok (.if_icmp .ge 55, 3) := by decide +kernel
theorem dX5_changeRails_14 : decode cX5_changeRails 14 = .ok (.aload_n 0, 1) := by decide +kernel
theorem dX5_changeRails_15 : decode cX5_changeRails 15 = .ok (.aload_n 1, 1) := by decide +kernel
theorem dX5_changeRails_16 : decode cX5_changeRails 16 = .ok (.iload 4, 2) := by decide +kernel
theorem dX5_changeRails_18 : decode cX5_changeRails 18 = .ok (.iload_n 2, 1) := by decide +kernel
theorem dX5_changeRails_19 : decode cX5_changeRails 19 = .ok (.iload 4, 2) := by decide +kernel
theorem dX5_changeRails_21 : decode cX5_changeRails 21 = .ok (.ishr, 1) := by decide +kernel
theorem dX5_changeRails_22 : decode cX5_changeRails 22 = .ok (.iconst 1, 1) := by decide +kernel
theorem dX5_changeRails_23 : decode cX5_changeRails 23 = .ok (.iand, 1) := by decide +kernel
theorem dX5_changeRails_24 : decode cX5_changeRails 24 = .ok (.iconst 1, 1) := by decide +kernel
theorem dX5_changeRails_25 : decode cX5_changeRails 25 = .ok (.if_icmp .ne 7, 3) := by decide +kernel
theorem dX5_changeRails_28 : decode cX5_changeRails 28 = .ok (.iconst 1, 1) := by decide +kernel
theorem dX5_changeRails_29 : decode cX5_changeRails 29 = .ok (.goto 4, 3) := by decide +kernel
theorem dX5_changeRails_32 : decode cX5_changeRails 32 = .ok (.iconst 0, 1) := by decide +kernel
theorem dX5_changeRails_33 : decode cX5_changeRails 33 = .ok (.invokevirtual 113, 3) := by decide +kernel
theorem dX5_changeRails_36 : decode cX5_changeRails 36 = .ok (.istore 5, 2) := by decide +kernel
theorem dX5_changeRails_38 : decode cX5_changeRails 38 = .ok (.iload 5, 2) := by decide +kernel
theorem dX5_changeRails_40 : decode cX5_changeRails 40 = .ok (.aload_n 0, 1) := by decide +kernel
theorem dX5_changeRails_41 : decode cX5_changeRails 41 = .ok (.getfield 18, 3) := by decide +kernel
theorem dX5_changeRails_44 : decode cX5_changeRails 44 = .ok (.iload 4, 2) := by decide +kernel
theorem dX5_changeRails_46 : decode cX5_changeRails 46 = .ok (.iaload, 1) := by decide +kernel
theorem dX5_changeRails_47 : decode cX5_changeRails 47 = .ok (.if_icmp .eq 13, 3) := by decide +kernel
theorem dX5_changeRails_50 : decode cX5_changeRails 50 = .ok (.aload_n 0, 1) := by decide +kernel
theorem dX5_changeRails_51 : decode cX5_changeRails 51 = .ok (.iload 4, 2) := by decide +kernel
theorem dX5_changeRails_53 : decode cX5_changeRails 53 = .ok (.iload 5, 2) := by decide +kernel
theorem dX5_changeRails_55 : decode cX5_changeRails 55 = .ok (.invokevirtual 117, 3) := by decide +kernel
theorem dX5_changeRails_58 : decode cX5_changeRails 58 = .ok (.iconst 1, 1) := by decide +kernel
theorem dX5_changeRails_59 : decode cX5_changeRails 59 = .ok (.istore_n 3, 1) := by decide +kernel
theorem dX5_changeRails_60 : decode cX5_changeRails 60 = .ok (.iinc 4 1, 3) := by decide +kernel
theorem dX5_changeRails_63 : decode cX5_changeRails 63 = .ok (.goto (-58), 3) := by decide +kernel
theorem dX5_changeRails_66 : decode cX5_changeRails 66 = .ok (.iload_n 3, 1) := by decide +kernel
theorem dX5_changeRails_67 : decode cX5_changeRails 67 = .ok (.ireturn, 1) := by decide +kernel
set_option maxRecDepth 20000 in
theorem ggX5_nextState_X3_number : GoodIn wsX5_nextState wsX3_number := goodIn_r _ [9, 10, 25, 26, 27, 28, 29, 30] (by decide +kernel) (by decide +kernel)
set_option maxRecDepth 20000 in
theorem gX5_nextState_X3_number : GoodIn wsX5_nextState (wsV RX5 47 RX3 yX3_number wsX3_number) := goodIn_app (goodIn_of _ (by decide +kernel)) ggX5_nextState_X3_number
theorem dX5_nextState_0 : decode cX5_nextState 0 = .ok (.aload_n 0, 1) := by decide +kernel
theorem dX5_nextState_1 : decode cX5_nextState 1 = .ok (.getfield 34, 3) := by decide +kernel
theorem dX5_nextState_4 : decode cX5_nextState 4 = .ok (.iload_n 2, 1) := by decide +kernel
theorem dX5_nextState_5 : decode cX5_nextState 5 = .ok (.ishr, 1) := by decide +kernel
theorem dX5_nextState_6 : decode cX5_nextState 6 = .ok (.iconst 1, 1) := by decide +kernel
theorem dX5_nextState_7 : decode cX5_nextState 7 = .ok (.iand, 1) := by decide +kernel
theorem dX5_nextState_8 : decode cX5_nextState 8 = .ok (.ifCond .ne 7, 3) := by decide +kernel
theorem dX5_nextState_11 : decode cX5_nextState 11 = .ok (.iconst 1, 1) := by decide +kernel
theorem dX5_nextState_12 : decode cX5_nextState 12 = .ok (.goto 4, 3) := by decide +kernel
theorem dX5_nextState_15 : decode cX5_nextState 15 = .ok (.iconst 0, 1) := by decide +kernel
theorem dX5_nextState_16 : decode cX5_nextState 16 = .ok (.istore 4, 2) := by decide +kernel
theorem dX5_nextState_18 : decode cX5_nextState 18 = .ok (.aload_n 0, 1) := by decide +kernel
theorem dX5_nextState_19 : decode cX5_nextState 19 = .ok (.getfield 18, 3) := by decide +kernel
theorem dX5_nextState_22 : decode cX5_nextState 22 = .ok (.iload_n 2, 1) := by decide +kernel
theorem dX5_nextState_23 : decode cX5_nextState 23 = .ok (.iaload, 1) := by decide +kernel
theorem dX5_nextState_24 : decode cX5_nextState 24 = .ok (.tableswitch 116 0 3 #[32, 42, 69, 101], 32) := by decide +kernel
theorem dX5_nextState_56 : decode cX5_nextState 56 = .ok (.iload_n 3, 1) := by decide +kernel
theorem dX5_nextState_57 : decode cX5_nextState 57 = .ok (.ifCond .eq 7, 3) := by decide +kernel
theorem dX5_nextState_60 : decode cX5_nextState 60 = .ok (.iconst 1, 1) := by decide +kernel
theorem dX5_nextState_61 : decode cX5_nextState 61 = .ok (.goto 4, 3) := by decide +kernel
theorem dX5_nextState_64 : decode cX5_nextState 64 = .ok (.iconst 0, 1) := by decide +kernel
theorem dX5_nextState_65 : decode cX5_nextState 65 = .ok (.ireturn, 1) := by decide +kernel
theorem dX5_nextState_66 : decode cX5_nextState 66 = .ok (.iload_n 3, 1) := by decide +kernel
theorem dX5_nextState_67 : decode cX5_nextState 67 = .ok (.ifCond .ne 5, 3) := by decide +kernel
theorem dX5_nextState_70 : decode cX5_nextState 70 = .ok (.iconst 0, 1) := by decide +kernel
theorem dX5_nextState_71 : decode cX5_nextState 71 = .ok (.ireturn, 1) := by decide +kernel
theorem dX5_nextState_72 : decode cX5_nextState 72 = .ok (.aload_n 0, 1) := by decide +kernel
theorem dX5_nextState_73 : decode cX5_nextState 73 = .ok (.getfield 22, 3) := by decide +kernel
theorem dX5_nextState_76 : decode cX5_nextState 76 = .ok (.iload_n 2, 1) := by decide +kernel
theorem dX5_nextState_77 : decode cX5_nextState 77 = .ok (.iaload, 1) := by decide +kernel
theorem dX5_nextState_78 : decode cX5_nextState 78 = .ok (.aload_n 1, 1) := by decide +kernel
theorem dX5_nextState_79 : decode cX5_nextState 79 = .ok (.iload_n 2, 1) := by decide +kernel
theorem dX5_nextState_80 : decode cX5_nextState 80 = .ok (.iconst 5, 1) := by decide +kernel
theorem dX5_nextState_81 : decode cX5_nextState 81 = .ok (.invokevirtual 47, 3) := by decide +kernel
theorem dX5_nextState_84 : decode cX5_nextState 84 = .ok (.if_icmp .lt 7, 3) := by decide +kernel
theorem dX5_nextState_87 : decode cX5_nextState 87 = .ok (.iconst 2, 1) := by decide +kernel
theorem dX5_nextState_88 : decode cX5_nextState 88 = .ok (.goto 4, 3) := by decide +kernel
theorem dX5_nextState_91 : decode cX5_nextState 91 = .ok (.iconst 1, 1) := by decide +kernel
theorem dX5_nextState_92 : decode cX5_nextState 92 = .ok (.ireturn, 1) := by decide +kernel
theorem dX5_nextState_93 : decode cX5_nextState 93 = .ok (.iload_n 3, 1) := by decide +kernel
theorem dX5_nextState_94 : decode cX5_nextState 94 = .ok (.ifCond .ne 5, 3) := by decide +kernel
theorem dX5_nextState_97 : decode cX5_nextState 97 = .ok (.iconst 4, 1) := by decide +kernel
theorem dX5_nextState_98 : decode cX5_nextState 98 = .ok (.ireturn, 1) := by decide +kernel
theorem dX5_nextState_99 : decode cX5_nextState 99 = .ok (.iload 4, 2) := by decide +kernel
theorem dX5_nextState_101 : decode cX5_nextState 101 = .ok (.ifCond .eq 22, 3) := by decide +kernel
theorem dX5_nextState_104 : decode cX5_nextState 104 = .ok (.aload_n 0, 1) := by decide +kernel
theorem dX5_nextState_105 : decode cX5_nextState 105 = .ok (.getfield 22, 3) := by decide +kernel
theorem dX5_nextState_108 : decode cX5_nextState 108 = .ok (.iload_n 2, 1) := by decide +kernel
theorem dX5_nextState_109 : decode cX5_nextState 109 = .ok (.iaload, 1) := by decide +kernel
theorem dX5_nextState_110 : decode cX5_nextState 110 = .ok (.aload_n 0, 1) := by decide +kernel
theorem dX5_nextState_111 : decode cX5_nextState 111 = .ok (.getfield 28, 3) := by decide +kernel
theorem dX5_nextState_114 : decode cX5_nextState 114 = .ok (.iload_n 2, 1) := by decide +kernel
theorem dX5_nextState_115 : decode cX5_nextState 115 = .ok (.iaload, 1) := by decide +kernel
theorem dX5_nextState_116 : decode cX5_nextState 116 = .ok (.if_icmp .lt 7, 3) := by decide +kernel
theorem dX5_nextState_119 : decode cX5_nextState 119 = .ok (.iconst 3, 1) := by decide +kernel
theorem dX5_nextState_120 : decode cX5_nextState 120 = .ok (.goto 4, 3) := by decide +kernel
theorem dX5_nextState_123 : decode cX5_nextState 123 = .ok (.iconst 2, 1) := by decide +kernel
theorem dX5_nextState_124 : decode cX5_nextState 124 = .ok (.ireturn, 1) := by decide +kernel
theorem dX5_nextState_125 : decode cX5_nextState 125 = .ok (.iload_n 3, 1) := by decide +kernel
theorem dX5_nextState_126 : decode cX5_nextState 126 = .ok (.ifCond .eq 12, 3) := by decide +kernel
theorem dX5_nextState_129 : decode cX5_nextState 129 = .ok (.iload 4, 2) := by decide +kernel
theorem dX5_nextState_131 : decode cX5_nextState 131 = .ok (.ifCond .eq 7, 3) := by decide +kernel
theorem dX5_nextState_134 : decode cX5_nextState 134 = .ok (.iconst 3, 1) := by decide +kernel
theorem dX5_nextState_135 : decode cX5_nextState 135 = .ok (.goto 4, 3) := by decide +kernel
theorem dX5_nextState_138 : decode cX5_nextState 138 = .ok (.iconst 4, 1) := by decide +kernel
theorem dX5_nextState_139 : decode cX5_nextState 139 = .ok (.ireturn, 1) := by decide +kernel
theorem dX5_nextState_140 : decode cX5_nextState 140 = .ok (.aload_n 0, 1) := by decide +kernel
theorem dX5_nextState_141 : decode cX5_nextState 141 = .ok (.getfield 22, 3) := by decide +kernel
theorem dX5_nextState_144 : decode cX5_nextState 144 = .ok (.iload_n 2, 1) := by decide +kernel
theorem dX5_nextState_145 : decode cX5_nextState 145 = .ok (.iaload, 1) := by decide +kernel
theorem dX5_nextState_146 : decode cX5_nextState 146 = .ok (.aload_n 1, 1) := by decide +kernel
theorem dX5_nextState_147 : decode cX5_nextState 147 = .ok (.iload_n 2, 1) := by decide +kernel
theorem dX5_nextState_148 : decode cX5_nextState 148 = .ok (.iconst 2, 1) := by decide +kernel
theorem dX5_nextState_149 : decode cX5_nextState 149 = .ok (.invokevirtual 47, 3) := by decide +kernel
theorem dX5_nextState_152 : decode cX5_nextState 152 = .ok (.if_icmp .lt 7, 3) := by decide +kernel
theorem dX5_nextState_155 : decode cX5_nextState 155 = .ok (.iconst 0, 1) := by decide +kernel
theorem dX5_nextState_156 : decode cX5_nextState 156 = .ok (.goto 4, 3) := by decide +kernel
theorem dX5_nextState_159 : decode cX5_nextState 159 = .ok (.iconst 4, 1) := by decide +kernel
theorem dX5_nextState_160 : decode cX5_nextState 160 = .ok (.ireturn, 1) := by decide +kernel
set_option maxRecDepth 20000 in
theorem ggX5_become_X2_note : GoodIn wsX5_become wsX2_note := goodIn_r _ [11, 12, 13, 14, 15, 30, 31, 32, 33] (by decide +kernel) (by decide +kernel)
set_option maxRecDepth 20000 in
theorem gX5_become_X2_note : GoodIn wsX5_become (wsV RX5 121 RX2 yX2_note wsX2_note) := goodIn_app (goodIn_of _ (by decide +kernel)) ggX5_become_X2_note
theorem dX5_become_0 : decode cX5_become 0 = .ok (.aload_n 0, 1) := by decide +kernel
theorem dX5_become_1 : decode cX5_become 1 = .ok (.getfield 18, 3) := by decide +kernel
theorem dX5_become_4 : decode cX5_become 4 = .ok (.iload_n 1, 1) := by decide +kernel
theorem dX5_become_5 : decode cX5_become 5 = .ok (.iload_n 2, 1) := by decide +kernel
theorem dX5_become_6 : decode cX5_become 6 = .ok (.iastore, 1) := by decide +kernel
theorem dX5_become_7 : decode cX5_become 7 = .ok (.aload_n 0, 1) := by decide +kernel
theorem dX5_become_8 : decode cX5_become 8 = .ok (.getfield 22, 3) := by decide +kernel
theorem dX5_become_11 : decode cX5_become 11 = .ok (.iload_n 1, 1) := by decide +kernel
theorem dX5_become_12 : decode cX5_become 12 = .ok (.iconst 0, 1) := by decide +kernel
theorem dX5_become_13 : decode cX5_become 13 = .ok (.iastore, 1) := by decide +kernel
theorem dX5_become_14 : decode cX5_become 14 = .ok (.iload_n 2, 1) := by decide +kernel
theorem dX5_become_15 : decode cX5_become 15 = .ok (.iconst 1, 1) := by decide +kernel
theorem dX5_become_16 : decode cX5_become 16 = .ok (.if_icmp .ne 10, 3) := by decide +kernel
theorem dX5_become_19 : decode cX5_become 19 = .ok (.aload_n 0, 1) := by decide +kernel
theorem dX5_become_20 : decode cX5_become 20 = .ok (.getfield 25, 3) := by decide +kernel
theorem dX5_become_23 : decode cX5_become 23 = .ok (.iload_n 1, 1) := by decide +kernel
theorem dX5_become_24 : decode cX5_become 24 = .ok (.iconst 0, 1) := by decide +kernel
theorem dX5_become_25 : decode cX5_become 25 = .ok (.iastore, 1) := by decide +kernel
theorem dX5_become_26 : decode cX5_become 26 = .ok (.iload_n 2, 1) := by decide +kernel
theorem dX5_become_27 : decode cX5_become 27 = .ok (.iconst 3, 1) := by decide +kernel
theorem dX5_become_28 : decode cX5_become 28 = .ok (.if_icmp .ne 13, 3) := by decide +kernel
theorem dX5_become_31 : decode cX5_become 31 = .ok (.aload_n 0, 1) := by decide +kernel
theorem dX5_become_32 : decode cX5_become 32 = .ok (.getfield 31, 3) := by decide +kernel
theorem dX5_become_35 : decode cX5_become 35 = .ok (.iload_n 1, 1) := by decide +kernel
theorem dX5_become_36 : decode cX5_become 36 = .ok (.dup2, 1) := by decide +kernel
theorem dX5_become_37 : decode cX5_become 37 = .ok (.iaload, 1) := by decide +kernel
theorem dX5_become_38 : decode cX5_become 38 = .ok (.iconst 1, 1) := by decide +kernel
theorem dX5_become_39 : decode cX5_become 39 = .ok (.iadd, 1) := by decide +kernel
theorem dX5_become_40 : decode cX5_become 40 = .ok (.iastore, 1) := by decide +kernel
theorem dX5_become_41 : decode cX5_become 41 = .ok (.aload_n 0, 1) := by decide +kernel
theorem dX5_become_42 : decode cX5_become 42 = .ok (.getfield 12, 3) := by decide +kernel
theorem dX5_become_45 : decode cX5_become 45 = .ok (.aload_n 0, 1) := by decide +kernel
theorem dX5_become_46 : decode cX5_become 46 = .ok (.getfield 51, 3) := by decide +kernel
theorem dX5_become_49 : decode cX5_become 49 = .ok (.iload_n 1, 1) := by decide +kernel
theorem dX5_become_50 : decode cX5_become 50 = .ok (.iload_n 2, 1) := by decide +kernel
theorem dX5_become_51 : decode cX5_become 51 = .ok (.invokevirtual 121, 3) := by decide +kernel
theorem dX5_become_54 : decode cX5_become 54 = .ok (.return_, 1) := by decide +kernel
set_option maxRecDepth 20000 in
theorem ggX5_sumDraw_X3_number : GoodIn wsX5_sumDraw wsX3_number := goodIn_r _ [7, 8, 9, 10, 11, 12, 13, 14] (by decide +kernel) (by decide +kernel)
set_option maxRecDepth 20000 in
theorem gX5_sumDraw_X3_number : GoodIn wsX5_sumDraw (wsV RX5 47 RX3 yX3_number wsX3_number) := goodIn_app (goodIn_of _ (by decide +kernel)) ggX5_sumDraw_X3_number
theorem dX5_sumDraw_0 : decode cX5_sumDraw 0 = .ok (.iconst 0, 1) := by decide +kernel
theorem dX5_sumDraw_1 : decode cX5_sumDraw 1 = .ok (.istore_n 2, 1) := by decide +kernel
theorem dX5_sumDraw_2 : decode cX5_sumDraw 2 = .ok (.iconst 0, 1) := by decide +kernel
theorem dX5_sumDraw_3 : decode cX5_sumDraw 3 = .ok (.istore_n 3, 1) := by decide +kernel
theorem dX5_sumDraw_4 : decode cX5_sumDraw 4 = .ok (.iload_n 3, 1) := by decide +kernel
theorem dX5_sumDraw_5 : decode cX5_sumDraw 5 = .ok (.aload_n 1, 1) := by decide +kernel
theorem dX5_sumDraw_6 : decode cX5_sumDraw 6 = .ok (.getfield 106, 3) := by decide +kernel
theorem dX5_sumDraw_9 : decode cX5_sumDraw 9 = .ok (.if_icmp .ge 50, 3) := by decide +kernel
theorem dX5_sumDraw_12 : decode cX5_sumDraw 12 = .ok (.aload_n 0, 1) := by decide +kernel
theorem dX5_sumDraw_13 : decode cX5_sumDraw 13 = .ok (.getfield 18, 3) := by decide +kernel
theorem dX5_sumDraw_16 : decode cX5_sumDraw 16 = .ok (.iload_n 3, 1) := by decide +kernel
theorem dX5_sumDraw_17 : decode cX5_sumDraw 17 = .ok (.iaload, 1) := by decide +kernel
theorem dX5_sumDraw_18 : decode cX5_sumDraw 18 = .ok (.iconst 3, 1) := by decide +kernel
theorem dX5_sumDraw_19 : decode cX5_sumDraw 19 = .ok (.if_icmp .ne 15, 3) := by decide +kernel
theorem dX5_sumDraw_22 : decode cX5_sumDraw 22 = .ok (.iload_n 2, 1) := by decide +kernel
theorem dX5_sumDraw_23 : decode cX5_sumDraw 23 = .ok (.aload_n 1, 1) := by decide +kernel
theorem dX5_sumDraw_24 : decode cX5_sumDraw 24 = .ok (.iload_n 3, 1) := by decide +kernel
theorem dX5_sumDraw_25 : decode cX5_sumDraw 25 = .ok (.iconst 3, 1) := by decide +kernel
theorem dX5_sumDraw_26 : decode cX5_sumDraw 26 = .ok (.invokevirtual 47, 3) := by decide +kernel
theorem dX5_sumDraw_29 : decode cX5_sumDraw 29 = .ok (.iadd, 1) := by decide +kernel
theorem dX5_sumDraw_30 : decode cX5_sumDraw 30 = .ok (.istore_n 2, 1) := by decide +kernel
theorem dX5_sumDraw_31 : decode cX5_sumDraw 31 = .ok (.goto 22, 3) := by decide +kernel
theorem dX5_sumDraw_34 : decode cX5_sumDraw 34 = .ok (.aload_n 0, 1) := by decide +kernel
theorem dX5_sumDraw_35 : decode cX5_sumDraw 35 = .ok (.getfield 18, 3) := by decide +kernel
theorem dX5_sumDraw_38 : decode cX5_sumDraw 38 = .ok (.iload_n 3, 1) := by decide +kernel
theorem dX5_sumDraw_39 : decode cX5_sumDraw 39 = .ok (.iaload, 1) := by decide +kernel
theorem dX5_sumDraw_40 : decode cX5_sumDraw 40 = .ok (.iconst 2, 1) := by decide +kernel
theorem dX5_sumDraw_41 : decode cX5_sumDraw 41 = .ok (.if_icmp .ne 12, 3) := by decide +kernel
theorem dX5_sumDraw_44 : decode cX5_sumDraw 44 = .ok (.iload_n 2, 1) := by decide +kernel
theorem dX5_sumDraw_45 : decode cX5_sumDraw 45 = .ok (.aload_n 1, 1) := by decide +kernel
theorem dX5_sumDraw_46 : decode cX5_sumDraw 46 = .ok (.iload_n 3, 1) := by decide +kernel
theorem dX5_sumDraw_47 : decode cX5_sumDraw 47 = .ok (.iconst 4, 1) := by decide +kernel
theorem dX5_sumDraw_48 : decode cX5_sumDraw 48 = .ok (.invokevirtual 47, 3) := by decide +kernel
theorem dX5_sumDraw_51 : decode cX5_sumDraw 51 = .ok (.iadd, 1) := by decide +kernel
theorem dX5_sumDraw_52 : decode cX5_sumDraw 52 = .ok (.istore_n 2, 1) := by decide +kernel
theorem dX5_sumDraw_53 : decode cX5_sumDraw 53 = .ok (.iinc 3 1, 3) := by decide +kernel
theorem dX5_sumDraw_56 : decode cX5_sumDraw 56 = .ok (.goto (-52), 3) := by decide +kernel
theorem dX5_sumDraw_59 : decode cX5_sumDraw 59 = .ok (.iload_n 2, 1) := by decide +kernel
theorem dX5_sumDraw_60 : decode cX5_sumDraw 60 = .ok (.ireturn, 1) := by decide +kernel
set_option maxRecDepth 20000 in
theorem ggX5_whyTrip_X3_number : GoodIn wsX5_whyTrip wsX3_number := goodIn_r _ [10, 11, 26, 27, 28, 29, 30, 31] (by decide +kernel) (by decide +kernel)
set_option maxRecDepth 20000 in
theorem gX5_whyTrip_X3_number : GoodIn wsX5_whyTrip (wsV RX5 47 RX3 yX3_number wsX3_number) := goodIn_app (goodIn_of _ (by decide +kernel)) ggX5_whyTrip_X3_number
theorem dX5_whyTrip_0 : decode cX5_whyTrip 0 = .ok (.aload_n 0, 1) := by decide +kernel
theorem dX5_whyTrip_1 : decode cX5_whyTrip 1 = .ok (.getfield 66, 3) := by decide +kernel
theorem dX5_whyTrip_4 : decode cX5_whyTrip 4 = .ok (.aload_n 1, 1) := by decide +kernel
theorem dX5_whyTrip_5 : decode cX5_whyTrip 5 = .ok (.getfield 125, 3) := by decide +kernel
theorem dX5_whyTrip_8 : decode cX5_whyTrip 8 = .ok (.if_icmp .le 5, 3) := by decide +kernel
theorem dX5_whyTrip_11 : decode cX5_whyTrip 11 = .ok (.iconst 1, 1) := by decide +kernel
theorem dX5_whyTrip_12 : decode cX5_whyTrip 12 = .ok (.ireturn, 1) := by decide +kernel
theorem dX5_whyTrip_13 : decode cX5_whyTrip 13 = .ok (.iconst 0, 1) := by decide +kernel
theorem dX5_whyTrip_14 : decode cX5_whyTrip 14 = .ok (.istore_n 2, 1) := by decide +kernel
theorem dX5_whyTrip_15 : decode cX5_whyTrip 15 = .ok (.iload_n 2, 1) := by decide +kernel
theorem dX5_whyTrip_16 : decode cX5_whyTrip 16 = .ok (.aload_n 1, 1) := by decide +kernel
theorem dX5_whyTrip_17 : decode cX5_whyTrip 17 = .ok (.getfield 106, 3) := by decide +kernel
theorem dX5_whyTrip_20 : decode cX5_whyTrip 20 = .ok (.if_icmp .ge 65, 3) := by decide +kernel
theorem dX5_whyTrip_23 : decode cX5_whyTrip 23 = .ok (.aload_n 1, 1) := by decide +kernel
theorem dX5_whyTrip_24 : decode cX5_whyTrip 24 = .ok (.iload_n 2, 1) := by decide +kernel
theorem dX5_whyTrip_25 : decode cX5_whyTrip 25 = .ok (.bipush 6, 2) := by decide +kernel
theorem dX5_whyTrip_27 : decode cX5_whyTrip 27 = .ok (.invokevirtual 47, 3) := by decide +kernel
theorem dX5_whyTrip_30 : decode cX5_whyTrip 30 = .ok (.istore_n 3, 1) := by decide +kernel
theorem dX5_whyTrip_31 : decode cX5_whyTrip 31 = .ok (.aload_n 0, 1) := by decide +kernel
theorem dX5_whyTrip_32 : decode cX5_whyTrip 32 = .ok (.getfield 18, 3) := by decide +kernel
theorem dX5_whyTrip_35 : decode cX5_whyTrip 35 = .ok (.iload_n 2, 1) := by decide +kernel
theorem dX5_whyTrip_36 : decode cX5_whyTrip 36 = .ok (.iaload, 1) := by decide +kernel
theorem dX5_whyTrip_37 : decode cX5_whyTrip 37 = .ok (.iconst 1, 1) := by decide +kernel
theorem dX5_whyTrip_38 : decode cX5_whyTrip 38 = .ok (.if_icmp .eq 13, 3) := by decide +kernel
theorem dX5_whyTrip_41 : decode cX5_whyTrip 41 = .ok (.aload_n 0, 1) := by decide +kernel
theorem dX5_whyTrip_42 : decode cX5_whyTrip 42 = .ok (.getfield 18, 3) := by decide +kernel
theorem dX5_whyTrip_45 : decode cX5_whyTrip 45 = .ok (.iload_n 2, 1) := by decide +kernel
theorem dX5_whyTrip_46 : decode cX5_whyTrip 46 = .ok (.iaload, 1) := by decide +kernel
theorem dX5_whyTrip_47 : decode cX5_whyTrip 47 = .ok (.iconst 2, 1) := by decide +kernel
theorem dX5_whyTrip_48 : decode cX5_whyTrip 48 = .ok (.if_icmp .ne 7, 3) := by decide +kernel
theorem dX5_whyTrip_51 : decode cX5_whyTrip 51 = .ok (.iconst 1, 1) := by decide +kernel
theorem dX5_whyTrip_52 : decode cX5_whyTrip 52 = .ok (.goto 4, 3) := by decide +kernel
theorem dX5_whyTrip_55 : decode cX5_whyTrip 55 = .ok (.iconst 0, 1) := by decide +kernel
theorem dX5_whyTrip_56 : decode cX5_whyTrip 56 = .ok (.istore 4, 2) := by decide +kernel
theorem dX5_whyTrip_58 : decode cX5_whyTrip 58 = .ok (.iload_n 3, 1) := by decide +kernel
theorem dX5_whyTrip_59 : decode cX5_whyTrip 59 = .ok (.ifCond .le 20, 3) := by decide +kernel
theorem dX5_whyTrip_62 : decode cX5_whyTrip 62 = .ok (.iload 4, 2) := by decide +kernel
theorem dX5_whyTrip_64 : decode cX5_whyTrip 64 = .ok (.ifCond .eq 15, 3) := by decide +kernel
theorem dX5_whyTrip_67 : decode cX5_whyTrip 67 = .ok (.aload_n 0, 1) := by decide +kernel
theorem dX5_whyTrip_68 : decode cX5_whyTrip 68 = .ok (.getfield 25, 3) := by decide +kernel
theorem dX5_whyTrip_71 : decode cX5_whyTrip 71 = .ok (.iload_n 2, 1) := by decide +kernel
theorem dX5_whyTrip_72 : decode cX5_whyTrip 72 = .ok (.iaload, 1) := by decide +kernel
theorem dX5_whyTrip_73 : decode cX5_whyTrip 73 = .ok (.iload_n 3, 1) := by decide +kernel
theorem dX5_whyTrip_74 : decode cX5_whyTrip 74 = .ok (.if_icmp .lt 5, 3) := by decide +kernel
theorem dX5_whyTrip_77 : decode cX5_whyTrip 77 = .ok (.iconst 2, 1) := by decide +kernel
theorem dX5_whyTrip_78 : decode cX5_whyTrip 78 = .ok (.ireturn, 1) := by decide +kernel
theorem dX5_whyTrip_79 : decode cX5_whyTrip 79 = .ok (.iinc 2 1, 3) := by decide +kernel
theorem dX5_whyTrip_82 : decode cX5_whyTrip 82 = .ok (.goto (-67), 3) := by decide +kernel
theorem dX5_whyTrip_85 : decode cX5_whyTrip 85 = .ok (.iconst 0, 1) := by decide +kernel
theorem dX5_whyTrip_86 : decode cX5_whyTrip 86 = .ok (.ireturn, 1) := by decide +kernel
set_option maxRecDepth 20000 in
theorem ggX5_trip_X2_note : GoodIn wsX5_trip wsX2_note := goodIn_r _ [11, 12, 13, 14, 15, 36, 37, 38, 39] (by decide +kernel) (by decide +kernel)
set_option maxRecDepth 20000 in
theorem gX5_trip_X2_note : GoodIn wsX5_trip (wsV RX5 121 RX2 yX2_note wsX2_note) := goodIn_app (goodIn_of _ (by decide +kernel)) ggX5_trip_X2_note
theorem dX5_trip_0 : decode cX5_trip 0 = .ok (.aload_n 0, 1) := by decide +kernel
theorem dX5_trip_1 : decode cX5_trip 1 = .ok (.dup, 1) := by decide +kernel
theorem dX5_trip_2 : decode cX5_trip 2 = .ok (.getfield 63, 3) := by decide +kernel
theorem dX5_trip_5 : decode cX5_trip 5 = .ok (.iconst 1, 1) := by decide +kernel
theorem dX5_trip_6 : decode cX5_trip 6 = .ok (.iadd, 1) := by decide +kernel
theorem dX5_trip_7 : decode cX5_trip 7 = .ok (.putfield 63, 3) := by decide +kernel
theorem dX5_trip_10 : decode cX5_trip 10 = .ok (.aload_n 0, 1) := by decide +kernel
theorem dX5_trip_11 : decode cX5_trip 11 = .ok (.getfield 12, 3) := by decide +kernel
theorem dX5_trip_14 : decode cX5_trip 14 = .ok (.aload_n 0, 1) := by decide +kernel
theorem dX5_trip_15 : decode cX5_trip 15 = .ok (.getfield 51, 3) := by decide +kernel
theorem dX5_trip_18 : decode cX5_trip 18 = .ok (.bipush (-4), 2) := by decide +kernel
theorem dX5_trip_20 : decode cX5_trip 20 = .ok (.iconst 5, 1) := by decide +kernel
theorem dX5_trip_21 : decode cX5_trip 21 = .ok (.iload_n 2, 1) := by decide +kernel
theorem dX5_trip_22 : decode cX5_trip 22 = .ok (.iadd, 1) := by decide +kernel
theorem dX5_trip_23 : decode cX5_trip 23 = .ok (.invokevirtual 121, 3) := by decide +kernel
theorem dX5_trip_26 : decode cX5_trip 26 = .ok (.aload_n 0, 1) := by decide +kernel
theorem dX5_trip_27 : decode cX5_trip 27 = .ok (.getfield 60, 3) := by decide +kernel
theorem dX5_trip_30 : decode cX5_trip 30 = .ok (.ifCond .le 24, 3) := by decide +kernel
theorem dX5_trip_33 : decode cX5_trip 33 = .ok (.aload_n 0, 1) := by decide +kernel
theorem dX5_trip_34 : decode cX5_trip 34 = .ok (.dup, 1) := by decide +kernel
theorem dX5_trip_35 : decode cX5_trip 35 = .ok (.getfield 60, 3) := by decide +kernel
theorem dX5_trip_38 : decode cX5_trip 38 = .ok (.iconst 1, 1) := by decide +kernel
theorem dX5_trip_39 : decode cX5_trip 39 = .ok (.isub, 1) := by decide +kernel
theorem dX5_trip_40 : decode cX5_trip 40 = .ok (.putfield 60, 3) := by decide +kernel
theorem dX5_trip_43 : decode cX5_trip 43 = .ok (.aload_n 0, 1) := by decide +kernel
theorem dX5_trip_44 : decode cX5_trip 44 = .ok (.aload_n 1, 1) := by decide +kernel
theorem dX5_trip_45 : decode cX5_trip 45 = .ok (.getfield 128, 3) := by decide +kernel
theorem dX5_trip_48 : decode cX5_trip 48 = .ok (.putfield 54, 3) := by decide +kernel
theorem dX5_trip_51 : decode cX5_trip 51 = .ok (.goto 9, 3) := by decide +kernel
theorem dX5_trip_54 : decode cX5_trip 54 = .ok (.aload_n 0, 1) := by decide +kernel
theorem dX5_trip_55 : decode cX5_trip 55 = .ok (.bipush (-4), 2) := by decide +kernel
theorem dX5_trip_57 : decode cX5_trip 57 = .ok (.putfield 54, 3) := by decide +kernel
theorem dX5_trip_60 : decode cX5_trip 60 = .ok (.return_, 1) := by decide +kernel
theorem dX5_growOlder_0 : decode cX5_growOlder 0 = .ok (.iconst 0, 1) := by decide +kernel
theorem dX5_growOlder_1 : decode cX5_growOlder 1 = .ok (.istore_n 2, 1) := by decide +kernel
theorem dX5_growOlder_2 : decode cX5_growOlder 2 = .ok (.iload_n 2, 1) := by decide +kernel
theorem dX5_growOlder_3 : decode cX5_growOlder 3 = .ok (.aload_n 1, 1) := by decide +kernel
theorem dX5_growOlder_4 : decode cX5_growOlder 4 = .ok (.getfield 106, 3) := by decide +kernel
theorem dX5_growOlder_7 : decode cX5_growOlder 7 = .ok (.if_icmp .ge 29, 3) := by decide +kernel
theorem dX5_growOlder_10 : decode cX5_growOlder 10 = .ok (.aload_n 0, 1) := by decide +kernel
theorem dX5_growOlder_11 : decode cX5_growOlder 11 = .ok (.getfield 22, 3) := by decide +kernel
theorem dX5_growOlder_14 : decode cX5_growOlder 14 = .ok (.iload_n 2, 1) := by decide +kernel
theorem dX5_growOlder_15 : decode cX5_growOlder 15 = .ok (.dup2, 1) := by decide +kernel
theorem dX5_growOlder_16 : decode cX5_growOlder 16 = .ok (.iaload, 1) := by decide +kernel
theorem dX5_growOlder_17 : decode cX5_growOlder 17 = .ok (.iconst 1, 1) := by decide +kernel
theorem dX5_growOlder_18 : decode cX5_growOlder 18 = .ok (.iadd, 1) := by decide +kernel
theorem dX5_growOlder_19 : decode cX5_growOlder 19 = .ok (.iastore, 1) := by decide +kernel
theorem dX5_growOlder_20 : decode cX5_growOlder 20 = .ok (.aload_n 0, 1) := by decide +kernel
theorem dX5_growOlder_21 : decode cX5_growOlder 21 = .ok (.getfield 25, 3) := by decide +kernel
theorem dX5_growOlder_24 : decode cX5_growOlder 24 = .ok (.iload_n 2, 1) := by decide +kernel
theorem dX5_growOlder_25 : decode cX5_growOlder 25 = .ok (.dup2, 1) := by decide +kernel
theorem dX5_growOlder_26 : decode cX5_growOlder 26 = .ok (.iaload, 1) := by decide +kernel
theorem dX5_growOlder_27 : decode cX5_growOlder 27 = .ok (.iconst 1, 1) := by decide +kernel
theorem dX5_growOlder_28 : decode cX5_growOlder 28 = .ok (.iadd, 1) := by decide +kernel
theorem dX5_growOlder_29 : decode cX5_growOlder 29 = .ok (.iastore, 1) := by decide +kernel
theorem dX5_growOlder_30 : decode cX5_growOlder 30 = .ok (.iinc 2 1, 3) := by decide +kernel
theorem dX5_growOlder_33 : decode cX5_growOlder 33 = .ok (.goto (-31), 3) := by decide +kernel
theorem dX5_growOlder_36 : decode cX5_growOlder 36 = .ok (.aload_n 0, 1) := by decide +kernel
theorem dX5_growOlder_37 : decode cX5_growOlder 37 = .ok (.dup, 1) := by decide +kernel
theorem dX5_growOlder_38 : decode cX5_growOlder 38 = .ok (.getfield 51, 3) := by decide +kernel
theorem dX5_growOlder_41 : decode cX5_growOlder 41 = .ok (.iconst 1, 1) := by decide +kernel
theorem dX5_growOlder_42 : decode cX5_growOlder 42 = .ok (.iadd, 1) := by decide +kernel
theorem dX5_growOlder_43 : decode cX5_growOlder 43 = .ok (.putfield 51, 3) := by decide +kernel
theorem dX5_growOlder_46 : decode cX5_growOlder 46 = .ok (.aload_n 0, 1) := by decide +kernel
theorem dX5_growOlder_47 : decode cX5_growOlder 47 = .ok (.getfield 54, 3) := by decide +kernel
theorem dX5_growOlder_50 : decode cX5_growOlder 50 = .ok (.ifCond .le 13, 3) := by decide +kernel
theorem dX5_growOlder_53 : decode cX5_growOlder 53 = .ok (.aload_n 0, 1) := by decide +kernel
theorem dX5_growOlder_54 : decode cX5_growOlder 54 = .ok (.dup, 1) := by decide +kernel
theorem dX5_growOlder_55 : decode cX5_growOlder 55 = .ok (.getfield 54, 3) := by decide +kernel
theorem dX5_growOlder_58 : decode cX5_growOlder 58 = .ok (.iconst 1, 1) := by decide +kernel
theorem dX5_growOlder_59 : decode cX5_growOlder 59 = .ok (.isub, 1) := by decide +kernel
theorem dX5_growOlder_60 : decode cX5_growOlder 60 = .ok (.putfield 54, 3) := by decide +kernel
theorem dX5_growOlder_63 : decode cX5_growOlder 63 = .ok (.return_, 1) := by decide +kernel
set_option maxRecDepth 20000 in
theorem ggX6_init_J7_fill_53178 : GoodIn wsX6_init wsJ7_fill_53178 := goodIn_r _ [12] (by decide +kernel) (by decide +kernel)
set_option maxRecDepth 20000 in
theorem gX6_init_J7_fill_53178 : GoodIn wsX6_init (va_wsS RX6 23 yJ7_fill_53178 wsJ7_fill_53178) := goodIn_app (goodIn_of _ (by decide +kernel)) ggX6_init_J7_fill_53178
theorem dX6_init_0 : decode cX6_init 0 = .ok (.aload_n 0, 1) := by decide +kernel
theorem dX6_init_1 : decode cX6_init 1 = .ok (.invokespecial 3, 3) := by decide +kernel
theorem dX6_init_4 : decode cX6_init 4 = .ok (.aload_n 0, 1) := by decide +kernel
theorem dX6_init_5 : decode cX6_init 5 = .ok (.iconst 4, 1) := by decide +kernel
theorem dX6_init_6 : decode cX6_init 6 = .ok (.bipush 40, 2) := by decide +kernel
theorem dX6_init_8 : decode cX6_init 8 = .ok (.multianewarray 11 2, 4) := by decide +kernel
theorem dX6_init_12 : decode cX6_init 12 = .ok (.putfield 13, 3) := by decide +kernel
theorem dX6_init_15 : decode cX6_init 15 = .ok (.aload_n 0, 1) := by decide +kernel
theorem dX6_init_16 : decode cX6_init 16 = .ok (.iconst 4, 1) := by decide +kernel
theorem dX6_init_17 : decode cX6_init 17 = .ok (.newarray .int, 2) := by decide +kernel
theorem dX6_init_19 : decode cX6_init 19 = .ok (.putfield 16, 3) := by decide +kernel
theorem dX6_init_22 : decode cX6_init 22 = .ok (.aload_n 0, 1) := by decide +kernel
theorem dX6_init_23 : decode cX6_init 23 = .ok (.iconst 4, 1) := by decide +kernel
theorem dX6_init_24 : decode cX6_init 24 = .ok (.newarray .int, 2) := by decide +kernel
theorem dX6_init_26 : decode cX6_init 26 = .ok (.putfield 20, 3) := by decide +kernel
theorem dX6_init_29 : decode cX6_init 29 = .ok (.aload_n 0, 1) := by decide +kernel
theorem dX6_init_30 : decode cX6_init 30 = .ok (.getfield 20, 3) := by decide +kernel
theorem dX6_init_33 : decode cX6_init 33 = .ok (.bipush (-4), 2) := by decide +kernel
theorem dX6_init_35 : decode cX6_init 35 = .ok (.invokestatic 23, 3) := by decide +kernel
theorem dX6_init_38 : decode cX6_init 38 = .ok (.return_, 1) := by decide +kernel
theorem dX6_hasPlace_0 : decode cX6_hasPlace 0 = .ok (.iload_n 0, 1) := by decide +kernel
theorem dX6_hasPlace_1 : decode cX6_hasPlace 1 = .ok (.ifCond .lt 12, 3) := by decide +kernel
theorem dX6_hasPlace_4 : decode cX6_hasPlace 4 = .ok (.iload_n 0, 1) := by decide +kernel
theorem dX6_hasPlace_5 : decode cX6_hasPlace 5 = .ok (.iconst 4, 1) := by decide +kernel
theorem dX6_hasPlace_6 : decode cX6_hasPlace 6 = .ok (.if_icmp .ge 7, 3) := by decide +kernel
theorem dX6_hasPlace_9 : decode cX6_hasPlace 9 = .ok (.iconst 1, 1) := by decide +kernel
theorem dX6_hasPlace_10 : decode cX6_hasPlace 10 = .ok (.goto 4, 3) := by decide +kernel
theorem dX6_hasPlace_13 : decode cX6_hasPlace 13 = .ok (.iconst 0, 1) := by decide +kernel
theorem dX6_hasPlace_14 : decode cX6_hasPlace 14 = .ok (.ireturn, 1) := by decide +kernel
theorem dX6_isLane_0 : decode cX6_isLane 0 = .ok (.iload_n 0, 1) := by decide +kernel
theorem dX6_isLane_1 : decode cX6_isLane 1 = .ok (.ifCond .lt 12, 3) := by decide +kernel
theorem dX6_isLane_4 : decode cX6_isLane 4 = .ok (.iload_n 0, 1) := by decide +kernel
theorem dX6_isLane_5 : decode cX6_isLane 5 = .ok (.iconst 2, 1) := by decide +kernel
theorem dX6_isLane_6 : decode cX6_isLane 6 = .ok (.if_icmp .gt 7, 3) := by decide +kernel
theorem dX6_isLane_9 : decode cX6_isLane 9 = .ok (.iconst 1, 1) := by decide +kernel
theorem dX6_isLane_10 : decode cX6_isLane 10 = .ok (.goto 4, 3) := by decide +kernel
theorem dX6_isLane_13 : decode cX6_isLane 13 = .ok (.iconst 0, 1) := by decide +kernel
theorem dX6_isLane_14 : decode cX6_isLane 14 = .ok (.ireturn, 1) := by decide +kernel
set_option maxRecDepth 20000 in
theorem ggX6_renew_J7_fill_53178 : GoodIn wsX6_renew wsJ7_fill_53178 := goodIn_r _ [7] (by decide +kernel) (by decide +kernel)
set_option maxRecDepth 20000 in
theorem gX6_renew_J7_fill_53178 : GoodIn wsX6_renew (va_wsS RX6 23 yJ7_fill_53178 wsJ7_fill_53178) := goodIn_app (goodIn_of _ (by decide +kernel)) ggX6_renew_J7_fill_53178
theorem dX6_renew_0 : decode cX6_renew 0 = .ok (.aload_n 0, 1) := by decide +kernel
theorem dX6_renew_1 : decode cX6_renew 1 = .ok (.getfield 16, 3) := by decide +kernel
theorem dX6_renew_4 : decode cX6_renew 4 = .ok (.iload_n 1, 1) := by decide +kernel
theorem dX6_renew_5 : decode cX6_renew 5 = .ok (.iload_n 2, 1) := by decide +kernel
theorem dX6_renew_6 : decode cX6_renew 6 = .ok (.iastore, 1) := by decide +kernel
theorem dX6_renew_7 : decode cX6_renew 7 = .ok (.aload_n 0, 1) := by decide +kernel
theorem dX6_renew_8 : decode cX6_renew 8 = .ok (.getfield 20, 3) := by decide +kernel
theorem dX6_renew_11 : decode cX6_renew 11 = .ok (.iload_n 1, 1) := by decide +kernel
theorem dX6_renew_12 : decode cX6_renew 12 = .ok (.iload_n 3, 1) := by decide +kernel
theorem dX6_renew_13 : decode cX6_renew 13 = .ok (.iastore, 1) := by decide +kernel
theorem dX6_renew_14 : decode cX6_renew 14 = .ok (.aload_n 0, 1) := by decide +kernel
theorem dX6_renew_15 : decode cX6_renew 15 = .ok (.getfield 13, 3) := by decide +kernel
theorem dX6_renew_18 : decode cX6_renew 18 = .ok (.iload_n 1, 1) := by decide +kernel
theorem dX6_renew_19 : decode cX6_renew 19 = .ok (.aaload, 1) := by decide +kernel
theorem dX6_renew_20 : decode cX6_renew 20 = .ok (.iconst 0, 1) := by decide +kernel
theorem dX6_renew_21 : decode cX6_renew 21 = .ok (.invokestatic 23, 3) := by decide +kernel
theorem dX6_renew_24 : decode cX6_renew 24 = .ok (.return_, 1) := by decide +kernel
theorem dX6_put_0 : decode cX6_put 0 = .ok (.aload_n 0, 1) := by decide +kernel
theorem dX6_put_1 : decode cX6_put 1 = .ok (.getfield 16, 3) := by decide +kernel
theorem dX6_put_4 : decode cX6_put 4 = .ok (.iload_n 1, 1) := by decide +kernel
theorem dX6_put_5 : decode cX6_put 5 = .ok (.iaload, 1) := by decide +kernel
theorem dX6_put_6 : decode cX6_put 6 = .ok (.lookupswitch 52 #[(0, 26), (1, 39)], 26) := by decide +kernel
theorem dX6_put_32 : decode cX6_put 32 = .ok (.aload_n 0, 1) := by decide +kernel
theorem dX6_put_33 : decode cX6_put 33 = .ok (.getfield 13, 3) := by decide +kernel
theorem dX6_put_36 : decode cX6_put 36 = .ok (.iload_n 1, 1) := by decide +kernel
theorem dX6_put_37 : decode cX6_put 37 = .ok (.aaload, 1) := by decide +kernel
theorem dX6_put_38 : decode cX6_put 38 = .ok (.iload_n 2, 1) := by decide +kernel
theorem dX6_put_39 : decode cX6_put 39 = .ok (.iload_n 3, 1) := by decide +kernel
theorem dX6_put_40 : decode cX6_put 40 = .ok (.i2b, 1) := by decide +kernel
theorem dX6_put_41 : decode cX6_put 41 = .ok (.iastore, 1) := by decide +kernel
theorem dX6_put_42 : decode cX6_put 42 = .ok (.goto 25, 3) := by decide +kernel
theorem dX6_put_45 : decode cX6_put 45 = .ok (.aload_n 0, 1) := by decide +kernel
theorem dX6_put_46 : decode cX6_put 46 = .ok (.getfield 13, 3) := by decide +kernel
theorem dX6_put_49 : decode cX6_put 49 = .ok (.iload_n 1, 1) := by decide +kernel
theorem dX6_put_50 : decode cX6_put 50 = .ok (.aaload, 1) := by decide +kernel
theorem dX6_put_51 : decode cX6_put 51 = .ok (.iload_n 2, 1) := by decide +kernel
theorem dX6_put_52 : decode cX6_put 52 = .ok (.iload_n 3, 1) := by decide +kernel
theorem dX6_put_53 : decode cX6_put 53 = .ok (.i2s, 1) := by decide +kernel
theorem dX6_put_54 : decode cX6_put 54 = .ok (.iastore, 1) := by decide +kernel
theorem dX6_put_55 : decode cX6_put 55 = .ok (.goto 12, 3) := by decide +kernel
theorem dX6_put_58 : decode cX6_put 58 = .ok (.aload_n 0, 1) := by decide +kernel
theorem dX6_put_59 : decode cX6_put 59 = .ok (.getfield 13, 3) := by decide +kernel
theorem dX6_put_62 : decode cX6_put 62 = .ok (.iload_n 1, 1) := by decide +kernel
theorem dX6_put_63 : decode cX6_put 63 = .ok (.aaload, 1) := by decide +kernel
theorem dX6_put_64 : decode cX6_put 64 = .ok (.iload_n 2, 1) := by decide +kernel
theorem dX6_put_65 : decode cX6_put 65 = .ok (.iload_n 3, 1) := by decide +kernel
theorem dX6_put_66 : decode cX6_put 66 = .ok (.iastore, 1) := by decide +kernel
theorem dX6_put_67 : decode cX6_put 67 = .ok (.return_, 1) := by decide +kernel
theorem dX7_init_0 : decode cX7_init 0 = .ok (.aload_n 0, 1) := by decide +kernel
theorem dX7_init_1 : decode cX7_init 1 = .ok (.invokespecial 3, 3) := by decide +kernel
theorem dX7_init_4 : decode cX7_init 4 = .ok (.aload_n 0, 1) := by decide +kernel
theorem dX7_init_5 : decode cX7_init 5 = .ok (.aload_n 1, 1) := by decide +kernel
theorem dX7_init_6 : decode cX7_init 6 = .ok (.putfield 9, 3) := by decide +kernel
theorem dX7_init_9 : decode cX7_init 9 = .ok (.aload_n 0, 1) := by decide +kernel
theorem dX7_init_10 : decode cX7_init 10 = .ok (.bipush 8, 2) := by decide +kernel
theorem dX7_init_12 : decode cX7_init 12 = .ok (.newarray .int, 2) := by decide +kernel
theorem dX7_init_14 : decode cX7_init 14 = .ok (.putfield 15, 3) := by decide +kernel
theorem dX7_init_17 : decode cX7_init 17 = .ok (.aload_n 0, 1) := by decide +kernel
theorem dX7_init_18 : decode cX7_init 18 = .ok (.iconst 0, 1) := by decide +kernel
theorem dX7_init_19 : decode cX7_init 19 = .ok (.putfield 19, 3) := by decide +kernel
theorem dX7_init_22 : decode cX7_init 22 = .ok (.aload_n 0, 1) := by decide +kernel
theorem dX7_init_23 : decode cX7_init 23 = .ok (.bipush (-4), 2) := by decide +kernel
theorem dX7_init_25 : decode cX7_init 25 = .ok (.putfield 23, 3) := by decide +kernel
theorem dX7_init_28 : decode cX7_init 28 = .ok (.return_, 1) := by decide +kernel
set_option maxRecDepth 20000 in
theorem ggX7_findRow_J7_fill_53178 : GoodIn wsX7_findRow wsJ7_fill_53178 := goodIn_r _ [11] (by decide +kernel) (by decide +kernel)
set_option maxRecDepth 20000 in
theorem gX7_findRow_J7_fill_53178 : GoodIn wsX7_findRow (va_wsS RX7 27 yJ7_fill_53178 wsJ7_fill_53178) := goodIn_app (goodIn_of _ (by decide +kernel)) ggX7_findRow_J7_fill_53178
set_option maxRecDepth 20000 in
theorem ggX7_findRow_X0_copyTakes : GoodIn wsX7_findRow wsX0_copyTakes := goodIn_r _ [16, 17, 18, 19, 20, 21, 82, 83, 84, 85, 86, 87, 88, 89, 90] (by decide +kernel) (by decide +kernel)
set_option maxRecDepth 20000 in
theorem gX7_findRow_X0_copyTakes : GoodIn wsX7_findRow (wsV RX7 38 RX0 yX0_copyTakes wsX0_copyTakes) := goodIn_app (goodIn_of _ (by decide +kernel)) ggX7_findRow_X0_copyTakes
set_option maxRecDepth 20000 in
theorem ggX7_findRow_X0_follow : GoodIn wsX7_findRow wsX0_follow := goodIn_r _ [25, 26, 27, 28, 29, 30, 31, 15, 32, 33, 34, 35, 17, 36, 37, 38, 39, 40, 41, 42, 43, 44, 45, 46, 47, 48, 49, 82, 83, 84, 85, 86, 87, 88, 89, 90, 91, 92, 93, 94, 95, 96] (by decide +kernel) (by decide +kernel)
set_option maxRecDepth 20000 in
theorem gX7_findRow_X0_follow : GoodIn wsX7_findRow (wsV RX7 42 RX0 yX0_follow wsX0_follow) := goodIn_app (goodIn_of _ (by decide +kernel)) ggX7_findRow_X0_follow
set_option maxRecDepth 20000 in
theorem ggX7_findRow_X7_keepIfBelowLimit : GoodIn wsX7_findRow wsX7_keepIfBelowLimit := goodIn_r _ [54, 4, 55, 56, 7, 2, 5, 3, 57, 19, 20, 21, 58, 59, 60, 15, 61, 33, 28, 62, 34, 63, 64, 27, 65, 66, 67, 68, 26, 69, 70, 71, 39, 72, 73, 78, 79, 80, 81, 82, 83, 84, 85, 86, 87, 88, 89, 90, 91, 92, 93, 94, 95, 96] (by decide +kernel) (by decide +kernel)
set_option maxRecDepth 20000 in
theorem gX7_findRow_X7_keepIfBelowLimit : GoodIn wsX7_findRow (wsV RX7 50 RX7 yX7_keepIfBelowLimit wsX7_keepIfBelowLimit) := goodIn_app (goodIn_of _ (by decide +kernel)) ggX7_findRow_X7_keepIfBelowLimit
set_option maxRecDepth 20000 in
theorem ggX7_findRow_X7_nextRow : GoodIn wsX7_findRow wsX7_nextRow := goodIn_r _ [77, 4, 5, 78, 79, 80, 81, 82, 83, 84, 85, 86, 87, 88, 89, 90] (by decide +kernel) (by decide +kernel)
set_option maxRecDepth 20000 in
theorem gX7_findRow_X7_nextRow : GoodIn wsX7_findRow (wsV RX7 54 RX7 yX7_nextRow wsX7_nextRow) := goodIn_app (goodIn_of _ (by decide +kernel)) ggX7_findRow_X7_nextRow
theorem dX7_findRow_0 : decode cX7_findRow 0 = .ok (.aload_n 0, 1) := by decide +kernel
theorem dX7_findRow_1 : decode cX7_findRow 1 = .ok (.getfield 19, 3) := by decide +kernel
theorem dX7_findRow_4 : decode cX7_findRow 4 = .ok (.ifCond .eq 4, 3) := by decide +kernel
theorem dX7_findRow_7 : decode cX7_findRow 7 = .ok (.return_, 1) := by decide +kernel
theorem dX7_findRow_8 : decode cX7_findRow 8 = .ok (.aload_n 0, 1) := by decide +kernel
theorem dX7_findRow_9 : decode cX7_findRow 9 = .ok (.iconst 1, 1) := by decide +kernel
theorem dX7_findRow_10 : decode cX7_findRow 10 = .ok (.putfield 19, 3) := by decide +kernel
theorem dX7_findRow_13 : decode cX7_findRow 13 = .ok (.aload_n 0, 1) := by decide +kernel
theorem dX7_findRow_14 : decode cX7_findRow 14 = .ok (.bipush (-4), 2) := by decide +kernel
theorem dX7_findRow_16 : decode cX7_findRow 16 = .ok (.putfield 23, 3) := by decide +kernel
theorem dX7_findRow_19 : decode cX7_findRow 19 = .ok (.aload_n 0, 1) := by decide +kernel
theorem dX7_findRow_20 : decode cX7_findRow 20 = .ok (.getfield 15, 3) := by decide +kernel
theorem dX7_findRow_23 : decode cX7_findRow 23 = .ok (.iconst 0, 1) := by decide +kernel
theorem dX7_findRow_24 : decode cX7_findRow 24 = .ok (.invokestatic 27, 3) := by decide +kernel
theorem dX7_findRow_27 : decode cX7_findRow 27 = .ok (.aload_n 0, 1) := by decide +kernel
theorem dX7_findRow_28 : decode cX7_findRow 28 = .ok (.getfield 9, 3) := by decide +kernel
theorem dX7_findRow_31 : decode cX7_findRow 31 = .ok (.getfield 33, 3) := by decide +kernel
theorem dX7_findRow_34 : decode cX7_findRow 34 = .ok (.iconst 0, 1) := by decide +kernel
theorem dX7_findRow_35 : decode cX7_findRow 35 = .ok (.invokestatic 27, 3) := by decide +kernel
theorem dX7_findRow_38 : decode cX7_findRow 38 = .ok (.aload_n 0, 1) := by decide +kernel
theorem dX7_findRow_39 : decode cX7_findRow 39 = .ok (.getfield 9, 3) := by decide +kernel
theorem dX7_findRow_42 : decode cX7_findRow 42 = .ok (.aload_n 3, 1) := by decide +kernel
theorem dX7_findRow_43 : decode cX7_findRow 43 = .ok (.invokevirtual 38, 3) := by decide +kernel
theorem dX7_findRow_46 : decode cX7_findRow 46 = .ok (.aload_n 0, 1) := by decide +kernel
theorem dX7_findRow_47 : decode cX7_findRow 47 = .ok (.getfield 9, 3) := by decide +kernel
theorem dX7_findRow_50 : decode cX7_findRow 50 = .ok (.aload_n 1, 1) := by decide +kernel
theorem dX7_findRow_51 : decode cX7_findRow 51 = .ok (.iload_n 2, 1) := by decide +kernel
theorem dX7_findRow_52 : decode cX7_findRow 52 = .ok (.invokevirtual 42, 3) := by decide +kernel
theorem dX7_findRow_55 : decode cX7_findRow 55 = .ok (.aload_n 0, 1) := by decide +kernel
theorem dX7_findRow_56 : decode cX7_findRow 56 = .ok (.getfield 9, 3) := by decide +kernel
theorem dX7_findRow_59 : decode cX7_findRow 59 = .ok (.getfield 46, 3) := by decide +kernel
theorem dX7_findRow_62 : decode cX7_findRow 62 = .ok (.istore 4, 2) := by decide +kernel
theorem dX7_findRow_64 : decode cX7_findRow 64 = .ok (.iload 4, 2) := by decide +kernel
theorem dX7_findRow_66 : decode cX7_findRow 66 = .ok (.ifCond .ne 4, 3) := by decide +kernel
theorem dX7_findRow_69 : decode cX7_findRow 69 = .ok (.return_, 1) := by decide +kernel
theorem dX7_findRow_70 : decode cX7_findRow 70 = .ok (.aload_n 0, 1) := by decide +kernel
theorem dX7_findRow_71 : decode cX7_findRow 71 = .ok (.getfield 9, 3) := by decide +kernel
theorem dX7_findRow_74 : decode cX7_findRow 74 = .ok (.getfield 49, 3) := by decide +kernel
theorem dX7_findRow_77 : decode cX7_findRow 77 = .ok (.istore 5, 2) := by decide +kernel
theorem dX7_findRow_79 : decode cX7_findRow 79 = .ok (.iconst 1, 1) := by decide +kernel
theorem dX7_findRow_80 : decode cX7_findRow 80 = .ok (.istore 6, 2) := by decide +kernel
theorem dX7_findRow_82 : decode cX7_findRow 82 = .ok (.iconst 0, 1) := by decide +kernel
theorem dX7_findRow_83 : decode cX7_findRow 83 = .ok (.istore 7, 2) := by decide +kernel
theorem dX7_findRow_85 : decode cX7_findRow 85 = .ok (.iload 7, 2) := by decide +kernel
theorem dX7_findRow_87 : decode cX7_findRow 87 = .ok (.sipush 4096, 3) := by decide +kernel
theorem dX7_findRow_90 : decode cX7_findRow 90 = .ok (.if_icmp .ge 69, 3) := by decide +kernel
theorem dX7_findRow_93 : decode cX7_findRow 93 = .ok (.iload 6, 2) := by decide +kernel
theorem dX7_findRow_95 : decode cX7_findRow 95 = .ok (.ifCond .eq 64, 3) := by decide +kernel
theorem dX7_findRow_98 : decode cX7_findRow 98 = .ok (.aload_n 0, 1) := by decide +kernel
theorem dX7_findRow_99 : decode cX7_findRow 99 = .ok (.getfield 23, 3) := by decide +kernel
theorem dX7_findRow_102 : decode cX7_findRow 102 = .ok (.iload 5, 2) := by decide +kernel
theorem dX7_findRow_104 : decode cX7_findRow 104 = .ok (.if_icmp .eq 55, 3) := by decide +kernel
theorem dX7_findRow_107 : decode cX7_findRow 107 = .ok (.aload_n 0, 1) := by decide +kernel
theorem dX7_findRow_108 : decode cX7_findRow 108 = .ok (.getfield 9, 3) := by decide +kernel
theorem dX7_findRow_111 : decode cX7_findRow 111 = .ok (.aload_n 1, 1) := by decide +kernel
theorem dX7_findRow_112 : decode cX7_findRow 112 = .ok (.iload 4, 2) := by decide +kernel
theorem dX7_findRow_114 : decode cX7_findRow 114 = .ok (.invokevirtual 42, 3) := by decide +kernel
theorem dX7_findRow_117 : decode cX7_findRow 117 = .ok (.aload_n 0, 1) := by decide +kernel
theorem dX7_findRow_118 : decode cX7_findRow 118 = .ok (.getfield 23, 3) := by decide +kernel
theorem dX7_findRow_121 : decode cX7_findRow 121 = .ok (.bipush (-4), 2) := by decide +kernel
theorem dX7_findRow_123 : decode cX7_findRow 123 = .ok (.if_icmp .eq 17, 3) := by decide +kernel
theorem dX7_findRow_126 : decode cX7_findRow 126 = .ok (.aload_n 0, 1) := by decide +kernel
theorem dX7_findRow_127 : decode cX7_findRow 127 = .ok (.getfield 9, 3) := by decide +kernel
theorem dX7_findRow_130 : decode cX7_findRow 130 = .ok (.getfield 49, 3) := by decide +kernel
theorem dX7_findRow_133 : decode cX7_findRow 133 = .ok (.aload_n 0, 1) := by decide +kernel
theorem dX7_findRow_134 : decode cX7_findRow 134 = .ok (.getfield 23, 3) := by decide +kernel
theorem dX7_findRow_137 : decode cX7_findRow 137 = .ok (.if_icmp .ge 8, 3) := by decide +kernel
theorem dX7_findRow_140 : decode cX7_findRow 140 = .ok (.aload_n 0, 1) := by decide +kernel
theorem dX7_findRow_141 : decode cX7_findRow 141 = .ok (.aload_n 1, 1) := by decide +kernel
theorem dX7_findRow_142 : decode cX7_findRow 142 = .ok (.invokevirtual 50, 3) := by decide +kernel
theorem dX7_findRow_145 : decode cX7_findRow 145 = .ok (.aload_n 0, 1) := by decide +kernel
theorem dX7_findRow_146 : decode cX7_findRow 146 = .ok (.iload 4, 2) := by decide +kernel
theorem dX7_findRow_148 : decode cX7_findRow 148 = .ok (.invokevirtual 54, 3) := by decide +kernel
theorem dX7_findRow_151 : decode cX7_findRow 151 = .ok (.istore 6, 2) := by decide +kernel
theorem dX7_findRow_153 : decode cX7_findRow 153 = .ok (.iinc 7 1, 3) := by decide +kernel
theorem dX7_findRow_156 : decode cX7_findRow 156 = .ok (.goto (-71), 3) := by decide +kernel
theorem dX7_findRow_159 : decode cX7_findRow 159 = .ok (.return_, 1) := by decide +kernel
set_option maxRecDepth 20000 in
theorem ggX7_keepIfBelowLimit_X0_findPeak : GoodIn wsX7_keepIfBelowLimit wsX0_findPeak := goodIn_r _ [16, 17, 18, 19, 20, 21, 22, 23, 24, 25, 26, 15, 27, 28, 29, 30, 31, 32, 33, 34, 48, 49, 50, 51, 52, 53, 39, 40, 41, 42, 43, 44, 45, 46, 47] (by decide +kernel) (by decide +kernel)
set_option maxRecDepth 20000 in
theorem gX7_keepIfBelowLimit_X0_findPeak : GoodIn wsX7_keepIfBelowLimit (wsV RX7 58 RX0 yX0_findPeak wsX0_findPeak) := goodIn_app (goodIn_of _ (by decide +kernel)) ggX7_keepIfBelowLimit_X0_findPeak
theorem dX7_keepIfBelowLimit_0 : decode cX7_keepIfBelowLimit 0 = .ok (.aload_n 0, 1) := by decide +kernel
theorem dX7_keepIfBelowLimit_1 : decode cX7_keepIfBelowLimit 1 = .ok (.getfield 9, 3) := by decide +kernel
theorem dX7_keepIfBelowLimit_4 : decode cX7_keepIfBelowLimit 4 = .ok (.aload_n 1, 1) := by decide +kernel
theorem dX7_keepIfBelowLimit_5 : decode cX7_keepIfBelowLimit 5 = .ok (.invokevirtual 58, 3) := by decide +kernel
theorem dX7_keepIfBelowLimit_8 : decode cX7_keepIfBelowLimit 8 = .ok (.aload_n 0, 1) := by decide +kernel
theorem dX7_keepIfBelowLimit_9 : decode cX7_keepIfBelowLimit 9 = .ok (.getfield 9, 3) := by decide +kernel
theorem dX7_keepIfBelowLimit_12 : decode cX7_keepIfBelowLimit 12 = .ok (.getfield 61, 3) := by decide +kernel
theorem dX7_keepIfBelowLimit_15 : decode cX7_keepIfBelowLimit 15 = .ok (.aload_n 1, 1) := by decide +kernel
theorem dX7_keepIfBelowLimit_16 : decode cX7_keepIfBelowLimit 16 = .ok (.getfield 64, 3) := by decide +kernel
theorem dX7_keepIfBelowLimit_19 : decode cX7_keepIfBelowLimit 19 = .ok (.if_icmp .gt 32, 3) := by decide +kernel
theorem dX7_keepIfBelowLimit_22 : decode cX7_keepIfBelowLimit 22 = .ok (.aload_n 0, 1) := by decide +kernel
theorem dX7_keepIfBelowLimit_23 : decode cX7_keepIfBelowLimit 23 = .ok (.aload_n 0, 1) := by decide +kernel
theorem dX7_keepIfBelowLimit_24 : decode cX7_keepIfBelowLimit 24 = .ok (.getfield 9, 3) := by decide +kernel
theorem dX7_keepIfBelowLimit_27 : decode cX7_keepIfBelowLimit 27 = .ok (.getfield 49, 3) := by decide +kernel
theorem dX7_keepIfBelowLimit_30 : decode cX7_keepIfBelowLimit 30 = .ok (.putfield 23, 3) := by decide +kernel
theorem dX7_keepIfBelowLimit_33 : decode cX7_keepIfBelowLimit 33 = .ok (.aload_n 0, 1) := by decide +kernel
theorem dX7_keepIfBelowLimit_34 : decode cX7_keepIfBelowLimit 34 = .ok (.getfield 9, 3) := by decide +kernel
theorem dX7_keepIfBelowLimit_37 : decode cX7_keepIfBelowLimit 37 = .ok (.getfield 33, 3) := by decide +kernel
theorem dX7_keepIfBelowLimit_40 : decode cX7_keepIfBelowLimit 40 = .ok (.iconst 0, 1) := by decide +kernel
theorem dX7_keepIfBelowLimit_41 : decode cX7_keepIfBelowLimit 41 = .ok (.aload_n 0, 1) := by decide +kernel
theorem dX7_keepIfBelowLimit_42 : decode cX7_keepIfBelowLimit 42 = .ok (.getfield 15, 3) := by decide +kernel
theorem dX7_keepIfBelowLimit_45 : decode cX7_keepIfBelowLimit 45 = .ok (.iconst 0, 1) := by decide +kernel
theorem dX7_keepIfBelowLimit_46 : decode cX7_keepIfBelowLimit 46 = .ok (.bipush 8, 2) := by decide +kernel
theorem dX7_keepIfBelowLimit_48 : decode cX7_keepIfBelowLimit 48 = .ok (.invokestatic 69, 3) := by decide +kernel
theorem dX7_keepIfBelowLimit_51 : decode cX7_keepIfBelowLimit 51 = .ok (.return_, 1) := by decide +kernel
theorem dX7_nextRow_0 : decode cX7_nextRow 0 = .ok (.bipush 7, 2) := by decide +kernel
theorem dX7_nextRow_2 : decode cX7_nextRow 2 = .ok (.istore_n 2, 1) := by decide +kernel
theorem dX7_nextRow_3 : decode cX7_nextRow 3 = .ok (.iload_n 2, 1) := by decide +kernel
theorem dX7_nextRow_4 : decode cX7_nextRow 4 = .ok (.ifCond .lt 58, 3) := by decide +kernel
theorem dX7_nextRow_7 : decode cX7_nextRow 7 = .ok (.iload_n 1, 1) := by decide +kernel
theorem dX7_nextRow_8 : decode cX7_nextRow 8 = .ok (.iload_n 2, 1) := by decide +kernel
theorem dX7_nextRow_9 : decode cX7_nextRow 9 = .ok (.ishr, 1) := by decide +kernel
theorem dX7_nextRow_10 : decode cX7_nextRow 10 = .ok (.iconst 1, 1) := by decide +kernel
theorem dX7_nextRow_11 : decode cX7_nextRow 11 = .ok (.iand, 1) := by decide +kernel
theorem dX7_nextRow_12 : decode cX7_nextRow 12 = .ok (.ifCond .ne 6, 3) := by decide +kernel
theorem dX7_nextRow_15 : decode cX7_nextRow 15 = .ok (.goto 41, 3) := by decide +kernel
theorem dX7_nextRow_18 : decode cX7_nextRow 18 = .ok (.aload_n 0, 1) := by decide +kernel
theorem dX7_nextRow_19 : decode cX7_nextRow 19 = .ok (.getfield 9, 3) := by decide +kernel
theorem dX7_nextRow_22 : decode cX7_nextRow 22 = .ok (.getfield 33, 3) := by decide +kernel
theorem dX7_nextRow_25 : decode cX7_nextRow 25 = .ok (.iload_n 2, 1) := by decide +kernel
theorem dX7_nextRow_26 : decode cX7_nextRow 26 = .ok (.iaload, 1) := by decide +kernel
theorem dX7_nextRow_27 : decode cX7_nextRow 27 = .ok (.iconst 3, 1) := by decide +kernel
theorem dX7_nextRow_28 : decode cX7_nextRow 28 = .ok (.if_icmp .ge 18, 3) := by decide +kernel
theorem dX7_nextRow_31 : decode cX7_nextRow 31 = .ok (.aload_n 0, 1) := by decide +kernel
theorem dX7_nextRow_32 : decode cX7_nextRow 32 = .ok (.getfield 9, 3) := by decide +kernel
theorem dX7_nextRow_35 : decode cX7_nextRow 35 = .ok (.getfield 33, 3) := by decide +kernel
theorem dX7_nextRow_38 : decode cX7_nextRow 38 = .ok (.iload_n 2, 1) := by decide +kernel
theorem dX7_nextRow_39 : decode cX7_nextRow 39 = .ok (.dup2, 1) := by decide +kernel
theorem dX7_nextRow_40 : decode cX7_nextRow 40 = .ok (.iaload, 1) := by decide +kernel
theorem dX7_nextRow_41 : decode cX7_nextRow 41 = .ok (.iconst 1, 1) := by decide +kernel
theorem dX7_nextRow_42 : decode cX7_nextRow 42 = .ok (.iadd, 1) := by decide +kernel
theorem dX7_nextRow_43 : decode cX7_nextRow 43 = .ok (.iastore, 1) := by decide +kernel
theorem dX7_nextRow_44 : decode cX7_nextRow 44 = .ok (.iconst 1, 1) := by decide +kernel
theorem dX7_nextRow_45 : decode cX7_nextRow 45 = .ok (.ireturn, 1) := by decide +kernel
theorem dX7_nextRow_46 : decode cX7_nextRow 46 = .ok (.aload_n 0, 1) := by decide +kernel
theorem dX7_nextRow_47 : decode cX7_nextRow 47 = .ok (.getfield 9, 3) := by decide +kernel
theorem dX7_nextRow_50 : decode cX7_nextRow 50 = .ok (.getfield 33, 3) := by decide +kernel
theorem dX7_nextRow_53 : decode cX7_nextRow 53 = .ok (.iload_n 2, 1) := by decide +kernel
theorem dX7_nextRow_54 : decode cX7_nextRow 54 = .ok (.iconst 0, 1) := by decide +kernel
theorem dX7_nextRow_55 : decode cX7_nextRow 55 = .ok (.iastore, 1) := by decide +kernel
theorem dX7_nextRow_56 : decode cX7_nextRow 56 = .ok (.iinc 2 (-1), 3) := by decide +kernel
theorem dX7_nextRow_59 : decode cX7_nextRow 59 = .ok (.goto (-56), 3) := by decide +kernel
theorem dX7_nextRow_62 : decode cX7_nextRow 62 = .ok (.iconst 0, 1) := by decide +kernel
theorem dX7_nextRow_63 : decode cX7_nextRow 63 = .ok (.ireturn, 1) := by decide +kernel
theorem dX8_init_0 : decode cX8_init 0 = .ok (.aload_n 0, 1) := by decide +kernel
theorem dX8_init_1 : decode cX8_init 1 = .ok (.invokespecial 1, 3) := by decide +kernel
theorem dX8_init_4 : decode cX8_init 4 = .ok (.aload_n 0, 1) := by decide +kernel
theorem dX8_init_5 : decode cX8_init 5 = .ok (.sipush 400, 3) := by decide +kernel
theorem dX8_init_8 : decode cX8_init 8 = .ok (.newarray .int, 2) := by decide +kernel
theorem dX8_init_10 : decode cX8_init 10 = .ok (.putfield 9, 3) := by decide +kernel
theorem dX8_init_13 : decode cX8_init 13 = .ok (.aload_n 0, 1) := by decide +kernel
theorem dX8_init_14 : decode cX8_init 14 = .ok (.iconst 0, 1) := by decide +kernel
theorem dX8_init_15 : decode cX8_init 15 = .ok (.putfield 13, 3) := by decide +kernel
theorem dX8_init_18 : decode cX8_init 18 = .ok (.return_, 1) := by decide +kernel
theorem dX8_push_0 : decode cX8_push 0 = .ok (.aload_n 0, 1) := by decide +kernel
theorem dX8_push_1 : decode cX8_push 1 = .ok (.getfield 13, 3) := by decide +kernel
theorem dX8_push_4 : decode cX8_push 4 = .ok (.bipush 8, 2) := by decide +kernel
theorem dX8_push_6 : decode cX8_push 6 = .ok (.iadd, 1) := by decide +kernel
theorem dX8_push_7 : decode cX8_push 7 = .ok (.sipush 400, 3) := by decide +kernel
theorem dX8_push_10 : decode cX8_push 10 = .ok (.if_icmp .le 5, 3) := by decide +kernel
theorem dX8_push_13 : decode cX8_push 13 = .ok (.iconst 0, 1) := by decide +kernel
theorem dX8_push_14 : decode cX8_push 14 = .ok (.ireturn, 1) := by decide +kernel
theorem dX8_push_15 : decode cX8_push 15 = .ok (.bipush 56, 2) := by decide +kernel
theorem dX8_push_17 : decode cX8_push 17 = .ok (.istore_n 3, 1) := by decide +kernel
theorem dX8_push_18 : decode cX8_push 18 = .ok (.iload_n 3, 1) := by decide +kernel
theorem dX8_push_19 : decode cX8_push 19 = .ok (.ifCond .lt 36, 3) := by decide +kernel
theorem dX8_push_22 : decode cX8_push 22 = .ok (.aload_n 0, 1) := by decide +kernel
theorem dX8_push_23 : decode cX8_push 23 = .ok (.getfield 9, 3) := by decide +kernel
theorem dX8_push_26 : decode cX8_push 26 = .ok (.aload_n 0, 1) := by decide +kernel
theorem dX8_push_27 : decode cX8_push 27 = .ok (.getfield 13, 3) := by decide +kernel
theorem dX8_push_30 : decode cX8_push 30 = .ok (.lload_n 1, 1) := by decide +kernel
theorem dX8_push_31 : decode cX8_push 31 = .ok (.iload_n 3, 1) := by decide +kernel
theorem dX8_push_32 : decode cX8_push 32 = .ok (.lushr, 1) := by decide +kernel
theorem dX8_push_33 : decode cX8_push 33 = .ok (.l2i, 1) := by decide +kernel
theorem dX8_push_34 : decode cX8_push 34 = .ok (.sipush 255, 3) := by decide +kernel
theorem dX8_push_37 : decode cX8_push 37 = .ok (.iand, 1) := by decide +kernel
theorem dX8_push_38 : decode cX8_push 38 = .ok (.iastore, 1) := by decide +kernel
theorem dX8_push_39 : decode cX8_push 39 = .ok (.aload_n 0, 1) := by decide +kernel
theorem dX8_push_40 : decode cX8_push 40 = .ok (.dup, 1) := by decide +kernel
theorem dX8_push_41 : decode cX8_push 41 = .ok (.getfield 13, 3) := by decide +kernel
theorem dX8_push_44 : decode cX8_push 44 = .ok (.iconst 1, 1) := by decide +kernel
theorem dX8_push_45 : decode cX8_push 45 = .ok (.iadd, 1) := by decide +kernel
theorem dX8_push_46 : decode cX8_push 46 = .ok (.putfield 13, 3) := by decide +kernel
theorem dX8_push_49 : decode cX8_push 49 = .ok (.iinc 3 (-8), 3) := by decide +kernel
theorem dX8_push_52 : decode cX8_push 52 = .ok (.goto (-34), 3) := by decide +kernel
theorem dX8_push_55 : decode cX8_push 55 = .ok (.iconst 1, 1) := by decide +kernel
theorem dX8_push_56 : decode cX8_push 56 = .ok (.ireturn, 1) := by decide +kernel
theorem dX9_init_0 : decode cX9_init 0 = .ok (.aload_n 0, 1) := by decide +kernel
theorem dX9_init_1 : decode cX9_init 1 = .ok (.invokespecial 3, 3) := by decide +kernel
theorem dX9_init_4 : decode cX9_init 4 = .ok (.aload_n 0, 1) := by decide +kernel
theorem dX9_init_5 : decode cX9_init 5 = .ok (.aload_n 1, 1) := by decide +kernel
theorem dX9_init_6 : decode cX9_init 6 = .ok (.putfield 9, 3) := by decide +kernel
theorem dX9_init_9 : decode cX9_init 9 = .ok (.aload_n 0, 1) := by decide +kernel
theorem dX9_init_10 : decode cX9_init 10 = .ok (.bipush 64, 2) := by decide +kernel
theorem dX9_init_12 : decode cX9_init 12 = .ok (.newarray .int, 2) := by decide +kernel
theorem dX9_init_14 : decode cX9_init 14 = .ok (.putfield 15, 3) := by decide +kernel
theorem dX9_init_17 : decode cX9_init 17 = .ok (.aload_n 0, 1) := by decide +kernel
theorem dX9_init_18 : decode cX9_init 18 = .ok (.bipush 64, 2) := by decide +kernel
theorem dX9_init_20 : decode cX9_init 20 = .ok (.newarray .boolean, 2) := by decide +kernel
theorem dX9_init_22 : decode cX9_init 22 = .ok (.putfield 19, 3) := by decide +kernel
theorem dX9_init_25 : decode cX9_init 25 = .ok (.aload_n 0, 1) := by decide +kernel
theorem dX9_init_26 : decode cX9_init 26 = .ok (.iconst 0, 1) := by decide +kernel
theorem dX9_init_27 : decode cX9_init 27 = .ok (.putfield 23, 3) := by decide +kernel
theorem dX9_init_30 : decode cX9_init 30 = .ok (.return_, 1) := by decide +kernel
theorem dX9_forget_0 : decode cX9_forget 0 = .ok (.aload_n 0, 1) := by decide +kernel
theorem dX9_forget_1 : decode cX9_forget 1 = .ok (.iconst 0, 1) := by decide +kernel
theorem dX9_forget_2 : decode cX9_forget 2 = .ok (.putfield 23, 3) := by decide +kernel
theorem dX9_forget_5 : decode cX9_forget 5 = .ok (.iconst 0, 1) := by decide +kernel
theorem dX9_forget_6 : decode cX9_forget 6 = .ok (.istore_n 1, 1) := by decide +kernel
theorem dX9_forget_7 : decode cX9_forget 7 = .ok (.iload_n 1, 1) := by decide +kernel
theorem dX9_forget_8 : decode cX9_forget 8 = .ok (.bipush 64, 2) := by decide +kernel
theorem dX9_forget_10 : decode cX9_forget 10 = .ok (.if_icmp .ge 16, 3) := by decide +kernel
theorem dX9_forget_13 : decode cX9_forget 13 = .ok (.aload_n 0, 1) := by decide +kernel
theorem dX9_forget_14 : decode cX9_forget 14 = .ok (.getfield 19, 3) := by decide +kernel
theorem dX9_forget_17 : decode cX9_forget 17 = .ok (.iload_n 1, 1) := by decide +kernel
theorem dX9_forget_18 : decode cX9_forget 18 = .ok (.iconst 0, 1) := by decide +kernel
theorem dX9_forget_19 : decode cX9_forget 19 = .ok (.bastore, 1) := by decide +kernel
theorem dX9_forget_20 : decode cX9_forget 20 = .ok (.iinc 1 1, 3) := by decide +kernel
theorem dX9_forget_23 : decode cX9_forget 23 = .ok (.goto (-16), 3) := by decide +kernel
theorem dX9_forget_26 : decode cX9_forget 26 = .ok (.return_, 1) := by decide +kernel
set_option maxRecDepth 20000 in
theorem ggX9_mostBehind_X3_sourcesOf : GoodIn wsX9_mostBehind wsX3_sourcesOf := goodIn_r _ [13, 14, 15, 16, 17, 12, 18, 19, 20, 21, 22, 23, 93, 94, 95, 96, 97, 98] (by decide +kernel) (by decide +kernel)
set_option maxRecDepth 20000 in
theorem gX9_mostBehind_X3_sourcesOf : GoodIn wsX9_mostBehind (wsV RX9 27 RX3 yX3_sourcesOf wsX3_sourcesOf) := goodIn_app (goodIn_of _ (by decide +kernel)) ggX9_mostBehind_X3_sourcesOf
set_option maxRecDepth 20000 in
theorem ggX9_mostBehind_X3_upAmong : GoodIn wsX9_mostBehind wsX3_upAmong := goodIn_r _ [27, 14, 28, 29, 30, 12, 31, 32, 93, 94, 95, 96, 97, 98] (by decide +kernel) (by decide +kernel)
set_option maxRecDepth 20000 in
theorem gX9_mostBehind_X3_upAmong : GoodIn wsX9_mostBehind (wsV RX9 33 RX3 yX3_upAmong wsX3_upAmong) := goodIn_app (goodIn_of _ (by decide +kernel)) ggX9_mostBehind_X3_upAmong
set_option maxRecDepth 20000 in
theorem ggX9_mostBehind_X9_start : GoodIn wsX9_mostBehind wsX9_start := goodIn_r _ [37, 3, 38, 39, 40, 41, 42, 43, 44, 45, 16, 17, 12, 18, 19, 46, 47, 48, 49, 50, 78, 79, 80, 81, 82, 83, 93, 94, 95, 96, 97, 98, 84, 85, 86, 87, 88, 89, 90, 91, 92] (by decide +kernel) (by decide +kernel)
set_option maxRecDepth 20000 in
theorem gX9_mostBehind_X9_start : GoodIn wsX9_mostBehind (wsV RX9 36 RX9 yX9_start wsX9_start) := goodIn_app (goodIn_of _ (by decide +kernel)) ggX9_mostBehind_X9_start
set_option maxRecDepth 20000 in
theorem ggX9_mostBehind_X0_follow : GoodIn wsX9_mostBehind wsX0_follow := goodIn_r _ [54, 55, 56, 57, 58, 59, 60, 41, 61, 43, 62, 44, 50, 63, 29, 30, 12, 31, 32, 64, 65, 66, 67, 68, 69, 7, 70, 84, 85, 86, 87, 88, 89, 90, 91, 92, 93, 94, 95, 96, 97, 98] (by decide +kernel) (by decide +kernel)
set_option maxRecDepth 20000 in
theorem gX9_mostBehind_X0_follow : GoodIn wsX9_mostBehind (wsV RX9 42 RX0 yX0_follow wsX0_follow) := goodIn_app (goodIn_of _ (by decide +kernel)) ggX9_mostBehind_X0_follow
set_option maxRecDepth 20000 in
theorem ggX9_mostBehind_X9_nextWay : GoodIn wsX9_mostBehind wsX9_nextWay := goodIn_r _ [74, 75, 3, 76, 77, 16, 17, 12, 18, 19, 93, 94, 95, 96, 97, 98, 78, 79, 80, 81, 82, 83, 84, 85, 86, 87, 88, 89, 90, 91, 92] (by decide +kernel) (by decide +kernel)
set_option maxRecDepth 20000 in
theorem gX9_mostBehind_X9_nextWay : GoodIn wsX9_mostBehind (wsV RX9 55 RX9 yX9_nextWay wsX9_nextWay) := goodIn_app (goodIn_of _ (by decide +kernel)) ggX9_mostBehind_X9_nextWay
theorem dX9_mostBehind_0 : decode cX9_mostBehind 0 = .ok (.iload_n 3, 1) := by decide +kernel
theorem dX9_mostBehind_1 : decode cX9_mostBehind 1 = .ok (.bipush 8, 2) := by decide +kernel
theorem dX9_mostBehind_3 : decode cX9_mostBehind 3 = .ok (.imul, 1) := by decide +kernel
theorem dX9_mostBehind_4 : decode cX9_mostBehind 4 = .ok (.iload 4, 2) := by decide +kernel
theorem dX9_mostBehind_6 : decode cX9_mostBehind 6 = .ok (.iadd, 1) := by decide +kernel
theorem dX9_mostBehind_7 : decode cX9_mostBehind 7 = .ok (.istore 5, 2) := by decide +kernel
theorem dX9_mostBehind_9 : decode cX9_mostBehind 9 = .ok (.aload_n 0, 1) := by decide +kernel
theorem dX9_mostBehind_10 : decode cX9_mostBehind 10 = .ok (.getfield 19, 3) := by decide +kernel
theorem dX9_mostBehind_13 : decode cX9_mostBehind 13 = .ok (.iload 5, 2) := by decide +kernel
theorem dX9_mostBehind_15 : decode cX9_mostBehind 15 = .ok (.baload, 1) := by decide +kernel
theorem dX9_mostBehind_16 : decode cX9_mostBehind 16 = .ok (.ifCond .eq 11, 3) := by decide +kernel
theorem dX9_mostBehind_19 : decode cX9_mostBehind 19 = .ok (.aload_n 0, 1) := by decide +kernel
theorem dX9_mostBehind_20 : decode cX9_mostBehind 20 = .ok (.getfield 15, 3) := by decide +kernel
theorem dX9_mostBehind_23 : decode cX9_mostBehind 23 = .ok (.iload 5, 2) := by decide +kernel
theorem dX9_mostBehind_25 : decode cX9_mostBehind 25 = .ok (.iaload, 1) := by decide +kernel
theorem dX9_mostBehind_26 : decode cX9_mostBehind 26 = .ok (.ireturn, 1) := by decide +kernel
theorem dX9_mostBehind_27 : decode cX9_mostBehind 27 = .ok (.aload_n 1, 1) := by decide +kernel
theorem dX9_mostBehind_28 : decode cX9_mostBehind 28 = .ok (.iconst 1, 1) := by decide +kernel
theorem dX9_mostBehind_29 : decode cX9_mostBehind 29 = .ok (.iload_n 3, 1) := by decide +kernel
theorem dX9_mostBehind_30 : decode cX9_mostBehind 30 = .ok (.ishl, 1) := by decide +kernel
theorem dX9_mostBehind_31 : decode cX9_mostBehind 31 = .ok (.iconst 1, 1) := by decide +kernel
theorem dX9_mostBehind_32 : decode cX9_mostBehind 32 = .ok (.iload 4, 2) := by decide +kernel
theorem dX9_mostBehind_34 : decode cX9_mostBehind 34 = .ok (.ishl, 1) := by decide +kernel
theorem dX9_mostBehind_35 : decode cX9_mostBehind 35 = .ok (.ior, 1) := by decide +kernel
theorem dX9_mostBehind_36 : decode cX9_mostBehind 36 = .ok (.invokevirtual 27, 3) := by decide +kernel
theorem dX9_mostBehind_39 : decode cX9_mostBehind 39 = .ok (.aload_n 1, 1) := by decide +kernel
theorem dX9_mostBehind_40 : decode cX9_mostBehind 40 = .ok (.iload_n 2, 1) := by decide +kernel
theorem dX9_mostBehind_41 : decode cX9_mostBehind 41 = .ok (.invokevirtual 33, 3) := by decide +kernel
theorem dX9_mostBehind_44 : decode cX9_mostBehind 44 = .ok (.iand, 1) := by decide +kernel
theorem dX9_mostBehind_45 : decode cX9_mostBehind 45 = .ok (.istore 6, 2) := by decide +kernel
theorem dX9_mostBehind_47 : decode cX9_mostBehind 47 = .ok (.aload_n 0, 1) := by decide +kernel
theorem dX9_mostBehind_48 : decode cX9_mostBehind 48 = .ok (.aload_n 1, 1) := by decide +kernel
theorem dX9_mostBehind_49 : decode cX9_mostBehind 49 = .ok (.invokevirtual 36, 3) := by decide +kernel
theorem dX9_mostBehind_52 : decode cX9_mostBehind 52 = .ok (.sipush (-144), 3) := by decide +kernel
theorem dX9_mostBehind_55 : decode cX9_mostBehind 55 = .ok (.istore 7, 2) := by decide +kernel
theorem dX9_mostBehind_57 : decode cX9_mostBehind 57 = .ok (.iconst 1, 1) := by decide +kernel
theorem dX9_mostBehind_58 : decode cX9_mostBehind 58 = .ok (.istore 8, 2) := by decide +kernel
theorem dX9_mostBehind_60 : decode cX9_mostBehind 60 = .ok (.iconst 0, 1) := by decide +kernel
theorem dX9_mostBehind_61 : decode cX9_mostBehind 61 = .ok (.istore 9, 2) := by decide +kernel
theorem dX9_mostBehind_63 : decode cX9_mostBehind 63 = .ok (.iload 9, 2) := by decide +kernel
theorem dX9_mostBehind_65 : decode cX9_mostBehind 65 = .ok (.sipush 20000, 3) := by decide +kernel
theorem dX9_mostBehind_68 : decode cX9_mostBehind 68 = .ok (.if_icmp .ge 60, 3) := by decide +kernel
theorem dX9_mostBehind_71 : decode cX9_mostBehind 71 = .ok (.iload 8, 2) := by decide +kernel
theorem dX9_mostBehind_73 : decode cX9_mostBehind 73 = .ok (.ifCond .eq 55, 3) := by decide +kernel
theorem dX9_mostBehind_76 : decode cX9_mostBehind 76 = .ok (.aload_n 0, 1) := by decide +kernel
theorem dX9_mostBehind_77 : decode cX9_mostBehind 77 = .ok (.getfield 9, 3) := by decide +kernel
theorem dX9_mostBehind_80 : decode cX9_mostBehind 80 = .ok (.aload_n 1, 1) := by decide +kernel
theorem dX9_mostBehind_81 : decode cX9_mostBehind 81 = .ok (.iload 6, 2) := by decide +kernel
theorem dX9_mostBehind_83 : decode cX9_mostBehind 83 = .ok (.invokevirtual 42, 3) := by decide +kernel
theorem dX9_mostBehind_86 : decode cX9_mostBehind 86 = .ok (.iload 7, 2) := by decide +kernel
theorem dX9_mostBehind_88 : decode cX9_mostBehind 88 = .ok (.aload_n 0, 1) := by decide +kernel
theorem dX9_mostBehind_89 : decode cX9_mostBehind 89 = .ok (.getfield 9, 3) := by decide +kernel
theorem dX9_mostBehind_92 : decode cX9_mostBehind 92 = .ok (.getfield 46, 3) := by decide +kernel
theorem dX9_mostBehind_95 : decode cX9_mostBehind 95 = .ok (.iload_n 3, 1) := by decide +kernel
theorem dX9_mostBehind_96 : decode cX9_mostBehind 96 = .ok (.iaload, 1) := by decide +kernel
theorem dX9_mostBehind_97 : decode cX9_mostBehind 97 = .ok (.aload_n 0, 1) := by decide +kernel
theorem dX9_mostBehind_98 : decode cX9_mostBehind 98 = .ok (.getfield 9, 3) := by decide +kernel
theorem dX9_mostBehind_101 : decode cX9_mostBehind 101 = .ok (.getfield 46, 3) := by decide +kernel
theorem dX9_mostBehind_104 : decode cX9_mostBehind 104 = .ok (.iload 4, 2) := by decide +kernel
theorem dX9_mostBehind_106 : decode cX9_mostBehind 106 = .ok (.iaload, 1) := by decide +kernel
theorem dX9_mostBehind_107 : decode cX9_mostBehind 107 = .ok (.isub, 1) := by decide +kernel
theorem dX9_mostBehind_108 : decode cX9_mostBehind 108 = .ok (.invokestatic 49, 3) := by decide +kernel
theorem dX9_mostBehind_111 : decode cX9_mostBehind 111 = .ok (.istore 7, 2) := by decide +kernel
theorem dX9_mostBehind_113 : decode cX9_mostBehind 113 = .ok (.aload_n 0, 1) := by decide +kernel
theorem dX9_mostBehind_114 : decode cX9_mostBehind 114 = .ok (.aload_n 1, 1) := by decide +kernel
theorem dX9_mostBehind_115 : decode cX9_mostBehind 115 = .ok (.iload 6, 2) := by decide +kernel
theorem dX9_mostBehind_117 : decode cX9_mostBehind 117 = .ok (.invokevirtual 55, 3) := by decide +kernel
theorem dX9_mostBehind_120 : decode cX9_mostBehind 120 = .ok (.istore 8, 2) := by decide +kernel
theorem dX9_mostBehind_122 : decode cX9_mostBehind 122 = .ok (.iinc 9 1, 3) := by decide +kernel
theorem dX9_mostBehind_125 : decode cX9_mostBehind 125 = .ok (.goto (-62), 3) := by decide +kernel
theorem dX9_mostBehind_128 : decode cX9_mostBehind 128 = .ok (.aload_n 0, 1) := by decide +kernel
theorem dX9_mostBehind_129 : decode cX9_mostBehind 129 = .ok (.getfield 15, 3) := by decide +kernel
theorem dX9_mostBehind_132 : decode cX9_mostBehind 132 = .ok (.iload 5, 2) := by decide +kernel
theorem dX9_mostBehind_134 : decode cX9_mostBehind 134 = .ok (.iload 7, 2) := by decide +kernel
theorem dX9_mostBehind_136 : decode cX9_mostBehind 136 = .ok (.iastore, 1) := by decide +kernel
theorem dX9_mostBehind_137 : decode cX9_mostBehind 137 = .ok (.aload_n 0, 1) := by decide +kernel
theorem dX9_mostBehind_138 : decode cX9_mostBehind 138 = .ok (.getfield 19, 3) := by decide +kernel
theorem dX9_mostBehind_141 : decode cX9_mostBehind 141 = .ok (.iload 5, 2) := by decide +kernel
theorem dX9_mostBehind_143 : decode cX9_mostBehind 143 = .ok (.iconst 1, 1) := by decide +kernel
theorem dX9_mostBehind_144 : decode cX9_mostBehind 144 = .ok (.bastore, 1) := by decide +kernel
theorem dX9_mostBehind_145 : decode cX9_mostBehind 145 = .ok (.iload 7, 2) := by decide +kernel
theorem dX9_mostBehind_147 : decode cX9_mostBehind 147 = .ok (.ireturn, 1) := by decide +kernel
set_option maxRecDepth 20000 in
theorem ggX9_findPeaks_X3_upAmong : GoodIn wsX9_findPeaks wsX3_upAmong := goodIn_r _ [17, 18, 19, 20, 21, 16, 22, 23, 97, 98, 99, 100, 101, 102] (by decide +kernel) (by decide +kernel)
set_option maxRecDepth 20000 in
theorem gX9_findPeaks_X3_upAmong : GoodIn wsX9_findPeaks (wsV RX9 33 RX3 yX3_upAmong wsX3_upAmong) := goodIn_app (goodIn_of _ (by decide +kernel)) ggX9_findPeaks_X3_upAmong
set_option maxRecDepth 20000 in
theorem ggX9_findPeaks_X9_start : GoodIn wsX9_findPeaks wsX9_start := goodIn_r _ [28, 2, 29, 30, 31, 32, 33, 34, 35, 36, 37, 38, 16, 39, 40, 41, 42, 43, 44, 45, 82, 83, 84, 85, 86, 87, 97, 98, 99, 100, 101, 102, 88, 89, 90, 91, 92, 93, 94, 95, 96] (by decide +kernel) (by decide +kernel)
set_option maxRecDepth 20000 in
theorem gX9_findPeaks_X9_start : GoodIn wsX9_findPeaks (wsV RX9 36 RX9 yX9_start wsX9_start) := goodIn_app (goodIn_of _ (by decide +kernel)) ggX9_findPeaks_X9_start
set_option maxRecDepth 20000 in
theorem ggX9_findPeaks_X0_follow : GoodIn wsX9_findPeaks wsX0_follow := goodIn_r _ [49, 50, 51, 52, 53, 54, 55, 32, 56, 34, 57, 35, 45, 58, 20, 21, 16, 22, 23, 59, 60, 61, 62, 63, 11, 8, 12, 88, 89, 90, 91, 92, 93, 94, 95, 96, 97, 98, 99, 100, 101, 102] (by decide +kernel) (by decide +kernel)
set_option maxRecDepth 20000 in
theorem gX9_findPeaks_X0_follow : GoodIn wsX9_findPeaks (wsV RX9 42 RX0 yX0_follow wsX0_follow) := goodIn_app (goodIn_of _ (by decide +kernel)) ggX9_findPeaks_X0_follow
set_option maxRecDepth 20000 in
theorem ggX9_findPeaks_X0_findPeak : GoodIn wsX9_findPeaks wsX0_findPeak := goodIn_r _ [67, 34, 52, 68, 57, 69, 70, 51, 71, 72, 73, 32, 74, 50, 36, 37, 38, 16, 39, 40, 97, 98, 99, 100, 101, 102, 88, 89, 90, 91, 92, 93, 94, 95, 96] (by decide +kernel) (by decide +kernel)
set_option maxRecDepth 20000 in
theorem gX9_findPeaks_X0_findPeak : GoodIn wsX9_findPeaks (wsV RX9 59 RX0 yX0_findPeak wsX0_findPeak) := goodIn_app (goodIn_of _ (by decide +kernel)) ggX9_findPeaks_X0_findPeak
set_option maxRecDepth 20000 in
theorem ggX9_findPeaks_X9_nextWay : GoodIn wsX9_findPeaks wsX9_nextWay := goodIn_r _ [78, 79, 2, 80, 81, 37, 38, 16, 39, 40, 97, 98, 99, 100, 101, 102, 82, 83, 84, 85, 86, 87, 88, 89, 90, 91, 92, 93, 94, 95, 96] (by decide +kernel) (by decide +kernel)
set_option maxRecDepth 20000 in
theorem gX9_findPeaks_X9_nextWay : GoodIn wsX9_findPeaks (wsV RX9 55 RX9 yX9_nextWay wsX9_nextWay) := goodIn_app (goodIn_of _ (by decide +kernel)) ggX9_findPeaks_X9_nextWay
theorem dX9_findPeaks_0 : decode cX9_findPeaks 0 = .ok (.aload_n 0, 1) := by decide +kernel
theorem dX9_findPeaks_1 : decode cX9_findPeaks 1 = .ok (.getfield 23, 3) := by decide +kernel
theorem dX9_findPeaks_4 : decode cX9_findPeaks 4 = .ok (.ifCond .eq 4, 3) := by decide +kernel
theorem dX9_findPeaks_7 : decode cX9_findPeaks 7 = .ok (.return_, 1) := by decide +kernel
theorem dX9_findPeaks_8 : decode cX9_findPeaks 8 = .ok (.aload_n 1, 1) := by decide +kernel
theorem dX9_findPeaks_9 : decode cX9_findPeaks 9 = .ok (.iload_n 2, 1) := by decide +kernel
theorem dX9_findPeaks_10 : decode cX9_findPeaks 10 = .ok (.invokevirtual 33, 3) := by decide +kernel
theorem dX9_findPeaks_13 : decode cX9_findPeaks 13 = .ok (.istore_n 3, 1) := by decide +kernel
theorem dX9_findPeaks_14 : decode cX9_findPeaks 14 = .ok (.aload_n 0, 1) := by decide +kernel
theorem dX9_findPeaks_15 : decode cX9_findPeaks 15 = .ok (.aload_n 1, 1) := by decide +kernel
theorem dX9_findPeaks_16 : decode cX9_findPeaks 16 = .ok (.invokevirtual 36, 3) := by decide +kernel
theorem dX9_findPeaks_19 : decode cX9_findPeaks 19 = .ok (.aload_n 0, 1) := by decide +kernel
theorem dX9_findPeaks_20 : decode cX9_findPeaks 20 = .ok (.getfield 9, 3) := by decide +kernel
theorem dX9_findPeaks_23 : decode cX9_findPeaks 23 = .ok (.aload_n 1, 1) := by decide +kernel
theorem dX9_findPeaks_24 : decode cX9_findPeaks 24 = .ok (.iload_n 3, 1) := by decide +kernel
theorem dX9_findPeaks_25 : decode cX9_findPeaks 25 = .ok (.invokevirtual 42, 3) := by decide +kernel
theorem dX9_findPeaks_28 : decode cX9_findPeaks 28 = .ok (.aload_n 0, 1) := by decide +kernel
theorem dX9_findPeaks_29 : decode cX9_findPeaks 29 = .ok (.getfield 9, 3) := by decide +kernel
theorem dX9_findPeaks_32 : decode cX9_findPeaks 32 = .ok (.aload_n 1, 1) := by decide +kernel
theorem dX9_findPeaks_33 : decode cX9_findPeaks 33 = .ok (.invokevirtual 59, 3) := by decide +kernel
theorem dX9_findPeaks_36 : decode cX9_findPeaks 36 = .ok (.aload_n 0, 1) := by decide +kernel
theorem dX9_findPeaks_37 : decode cX9_findPeaks 37 = .ok (.aload_n 0, 1) := by decide +kernel
theorem dX9_findPeaks_38 : decode cX9_findPeaks 38 = .ok (.getfield 9, 3) := by decide +kernel
theorem dX9_findPeaks_41 : decode cX9_findPeaks 41 = .ok (.getfield 62, 3) := by decide +kernel
theorem dX9_findPeaks_44 : decode cX9_findPeaks 44 = .ok (.putfield 66, 3) := by decide +kernel
theorem dX9_findPeaks_47 : decode cX9_findPeaks 47 = .ok (.aload_n 0, 1) := by decide +kernel
theorem dX9_findPeaks_48 : decode cX9_findPeaks 48 = .ok (.aload_n 0, 1) := by decide +kernel
theorem dX9_findPeaks_49 : decode cX9_findPeaks 49 = .ok (.getfield 9, 3) := by decide +kernel
theorem dX9_findPeaks_52 : decode cX9_findPeaks 52 = .ok (.getfield 62, 3) := by decide +kernel
theorem dX9_findPeaks_55 : decode cX9_findPeaks 55 = .ok (.putfield 69, 3) := by decide +kernel
theorem dX9_findPeaks_58 : decode cX9_findPeaks 58 = .ok (.aload_n 0, 1) := by decide +kernel
theorem dX9_findPeaks_59 : decode cX9_findPeaks 59 = .ok (.aload_n 1, 1) := by decide +kernel
theorem dX9_findPeaks_60 : decode cX9_findPeaks 60 = .ok (.iload_n 3, 1) := by decide +kernel
theorem dX9_findPeaks_61 : decode cX9_findPeaks 61 = .ok (.invokevirtual 55, 3) := by decide +kernel
theorem dX9_findPeaks_64 : decode cX9_findPeaks 64 = .ok (.istore 4, 2) := by decide +kernel
theorem dX9_findPeaks_66 : decode cX9_findPeaks 66 = .ok (.iconst 1, 1) := by decide +kernel
theorem dX9_findPeaks_67 : decode cX9_findPeaks 67 = .ok (.istore 5, 2) := by decide +kernel
theorem dX9_findPeaks_69 : decode cX9_findPeaks 69 = .ok (.iload 5, 2) := by decide +kernel
theorem dX9_findPeaks_71 : decode cX9_findPeaks 71 = .ok (.sipush 20000, 3) := by decide +kernel
theorem dX9_findPeaks_74 : decode cX9_findPeaks 74 = .ok (.if_icmp .ge 75, 3) := by decide +kernel
theorem dX9_findPeaks_77 : decode cX9_findPeaks 77 = .ok (.iload 4, 2) := by decide +kernel
theorem dX9_findPeaks_79 : decode cX9_findPeaks 79 = .ok (.ifCond .eq 70, 3) := by decide +kernel
theorem dX9_findPeaks_82 : decode cX9_findPeaks 82 = .ok (.aload_n 0, 1) := by decide +kernel
theorem dX9_findPeaks_83 : decode cX9_findPeaks 83 = .ok (.getfield 9, 3) := by decide +kernel
theorem dX9_findPeaks_86 : decode cX9_findPeaks 86 = .ok (.aload_n 1, 1) := by decide +kernel
theorem dX9_findPeaks_87 : decode cX9_findPeaks 87 = .ok (.iload_n 3, 1) := by decide +kernel
theorem dX9_findPeaks_88 : decode cX9_findPeaks 88 = .ok (.invokevirtual 42, 3) := by decide +kernel
theorem dX9_findPeaks_91 : decode cX9_findPeaks 91 = .ok (.aload_n 0, 1) := by decide +kernel
theorem dX9_findPeaks_92 : decode cX9_findPeaks 92 = .ok (.getfield 9, 3) := by decide +kernel
theorem dX9_findPeaks_95 : decode cX9_findPeaks 95 = .ok (.aload_n 1, 1) := by decide +kernel
theorem dX9_findPeaks_96 : decode cX9_findPeaks 96 = .ok (.invokevirtual 59, 3) := by decide +kernel
theorem dX9_findPeaks_99 : decode cX9_findPeaks 99 = .ok (.aload_n 0, 1) := by decide +kernel
theorem dX9_findPeaks_100 : decode cX9_findPeaks 100 = .ok (.aload_n 0, 1) := by decide +kernel
theorem dX9_findPeaks_101 : decode cX9_findPeaks 101 = .ok (.getfield 66, 3) := by decide +kernel
theorem dX9_findPeaks_104 : decode cX9_findPeaks 104 = .ok (.aload_n 0, 1) := by decide +kernel
theorem dX9_findPeaks_105 : decode cX9_findPeaks 105 = .ok (.getfield 9, 3) := by decide +kernel
theorem dX9_findPeaks_108 : decode cX9_findPeaks 108 = .ok (.getfield 62, 3) := by decide +kernel
theorem dX9_findPeaks_111 : decode cX9_findPeaks 111 = .ok (.invokestatic 49, 3) := by decide +kernel
theorem dX9_findPeaks_114 : decode cX9_findPeaks 114 = .ok (.putfield 66, 3) := by decide +kernel
theorem dX9_findPeaks_117 : decode cX9_findPeaks 117 = .ok (.aload_n 0, 1) := by decide +kernel
theorem dX9_findPeaks_118 : decode cX9_findPeaks 118 = .ok (.aload_n 0, 1) := by decide +kernel
theorem dX9_findPeaks_119 : decode cX9_findPeaks 119 = .ok (.getfield 69, 3) := by decide +kernel
theorem dX9_findPeaks_122 : decode cX9_findPeaks 122 = .ok (.aload_n 0, 1) := by decide +kernel
theorem dX9_findPeaks_123 : decode cX9_findPeaks 123 = .ok (.getfield 9, 3) := by decide +kernel
theorem dX9_findPeaks_126 : decode cX9_findPeaks 126 = .ok (.getfield 62, 3) := by decide +kernel
theorem dX9_findPeaks_129 : decode cX9_findPeaks 129 = .ok (.invokestatic 72, 3) := by decide +kernel
theorem dX9_findPeaks_132 : decode cX9_findPeaks 132 = .ok (.putfield 69, 3) := by decide +kernel
theorem dX9_findPeaks_135 : decode cX9_findPeaks 135 = .ok (.aload_n 0, 1) := by decide +kernel
theorem dX9_findPeaks_136 : decode cX9_findPeaks 136 = .ok (.aload_n 1, 1) := by decide +kernel
theorem dX9_findPeaks_137 : decode cX9_findPeaks 137 = .ok (.iload_n 3, 1) := by decide +kernel
theorem dX9_findPeaks_138 : decode cX9_findPeaks 138 = .ok (.invokevirtual 55, 3) := by decide +kernel
theorem dX9_findPeaks_141 : decode cX9_findPeaks 141 = .ok (.istore 4, 2) := by decide +kernel
theorem dX9_findPeaks_143 : decode cX9_findPeaks 143 = .ok (.iinc 5 1, 3) := by decide +kernel
theorem dX9_findPeaks_146 : decode cX9_findPeaks 146 = .ok (.goto (-77), 3) := by decide +kernel
theorem dX9_findPeaks_149 : decode cX9_findPeaks 149 = .ok (.aload_n 0, 1) := by decide +kernel
theorem dX9_findPeaks_150 : decode cX9_findPeaks 150 = .ok (.iconst 1, 1) := by decide +kernel
theorem dX9_findPeaks_151 : decode cX9_findPeaks 151 = .ok (.putfield 23, 3) := by decide +kernel
theorem dX9_findPeaks_154 : decode cX9_findPeaks 154 = .ok (.return_, 1) := by decide +kernel
set_option maxRecDepth 20000 in
theorem ggX9_start_X0_setWaits : GoodIn wsX9_start wsX0_setWaits := goodIn_r _ [6, 7, 8, 9, 10, 11, 12, 13, 14, 26, 27, 28, 29, 30, 31, 32, 33, 34, 35, 36, 37, 38, 39, 40] (by decide +kernel) (by decide +kernel)
set_option maxRecDepth 20000 in
theorem gX9_start_X0_setWaits : GoodIn wsX9_start (wsV RX9 75 RX0 yX0_setWaits wsX0_setWaits) := goodIn_app (goodIn_of _ (by decide +kernel)) ggX9_start_X0_setWaits
set_option maxRecDepth 20000 in
theorem ggX9_start_X0_setTakes : GoodIn wsX9_start wsX0_setTakes := goodIn_r _ [18, 7, 19, 9, 10, 11, 12, 13, 14, 26, 27, 28, 29, 30, 31, 32, 33, 34, 35, 36, 37, 38, 39, 40] (by decide +kernel) (by decide +kernel)
set_option maxRecDepth 20000 in
theorem gX9_start_X0_setTakes : GoodIn wsX9_start (wsV RX9 78 RX0 yX0_setTakes wsX0_setTakes) := goodIn_app (goodIn_of _ (by decide +kernel)) ggX9_start_X0_setTakes
theorem dX9_start_0 : decode cX9_start 0 = .ok (.aload_n 0, 1) := by decide +kernel
theorem dX9_start_1 : decode cX9_start 1 = .ok (.getfield 9, 3) := by decide +kernel
theorem dX9_start_4 : decode cX9_start 4 = .ok (.aload_n 1, 1) := by decide +kernel
theorem dX9_start_5 : decode cX9_start 5 = .ok (.invokevirtual 75, 3) := by decide +kernel
theorem dX9_start_8 : decode cX9_start 8 = .ok (.aload_n 0, 1) := by decide +kernel
theorem dX9_start_9 : decode cX9_start 9 = .ok (.getfield 9, 3) := by decide +kernel
theorem dX9_start_12 : decode cX9_start 12 = .ok (.aload_n 1, 1) := by decide +kernel
theorem dX9_start_13 : decode cX9_start 13 = .ok (.iconst 0, 1) := by decide +kernel
theorem dX9_start_14 : decode cX9_start 14 = .ok (.invokevirtual 78, 3) := by decide +kernel
theorem dX9_start_17 : decode cX9_start 17 = .ok (.return_, 1) := by decide +kernel
set_option maxRecDepth 20000 in
theorem ggX9_nextWay_X3_number : GoodIn wsX9_nextWay wsX3_number := goodIn_r _ [8, 9, 10, 11, 12, 13, 14, 15] (by decide +kernel) (by decide +kernel)
set_option maxRecDepth 20000 in
theorem gX9_nextWay_X3_number : GoodIn wsX9_nextWay (wsV RX9 87 RX3 yX3_number wsX3_number) := goodIn_app (goodIn_of _ (by decide +kernel)) ggX9_nextWay_X3_number
theorem dX9_nextWay_0 : decode cX9_nextWay 0 = .ok (.iconst 0, 1) := by decide +kernel
theorem dX9_nextWay_1 : decode cX9_nextWay 1 = .ok (.istore_n 3, 1) := by decide +kernel
theorem dX9_nextWay_2 : decode cX9_nextWay 2 = .ok (.iload_n 3, 1) := by decide +kernel
theorem dX9_nextWay_3 : decode cX9_nextWay 3 = .ok (.aload_n 1, 1) := by decide +kernel
theorem dX9_nextWay_4 : decode cX9_nextWay 4 = .ok (.getfield 81, 3) := by decide +kernel
theorem dX9_nextWay_7 : decode cX9_nextWay 7 = .ok (.if_icmp .ge 68, 3) := by decide +kernel
theorem dX9_nextWay_10 : decode cX9_nextWay 10 = .ok (.iload_n 2, 1) := by decide +kernel
theorem dX9_nextWay_11 : decode cX9_nextWay 11 = .ok (.iload_n 3, 1) := by decide +kernel
theorem dX9_nextWay_12 : decode cX9_nextWay 12 = .ok (.ishr, 1) := by decide +kernel
theorem dX9_nextWay_13 : decode cX9_nextWay 13 = .ok (.iconst 1, 1) := by decide +kernel
theorem dX9_nextWay_14 : decode cX9_nextWay 14 = .ok (.iand, 1) := by decide +kernel
theorem dX9_nextWay_15 : decode cX9_nextWay 15 = .ok (.ifCond .ne 6, 3) := by decide +kernel
theorem dX9_nextWay_18 : decode cX9_nextWay 18 = .ok (.goto 51, 3) := by decide +kernel
theorem dX9_nextWay_21 : decode cX9_nextWay 21 = .ok (.aload_n 0, 1) := by decide +kernel
theorem dX9_nextWay_22 : decode cX9_nextWay 22 = .ok (.getfield 9, 3) := by decide +kernel
theorem dX9_nextWay_25 : decode cX9_nextWay 25 = .ok (.getfield 84, 3) := by decide +kernel
theorem dX9_nextWay_28 : decode cX9_nextWay 28 = .ok (.iload_n 3, 1) := by decide +kernel
theorem dX9_nextWay_29 : decode cX9_nextWay 29 = .ok (.iaload, 1) := by decide +kernel
theorem dX9_nextWay_30 : decode cX9_nextWay 30 = .ok (.aload_n 1, 1) := by decide +kernel
theorem dX9_nextWay_31 : decode cX9_nextWay 31 = .ok (.iload_n 3, 1) := by decide +kernel
theorem dX9_nextWay_32 : decode cX9_nextWay 32 = .ok (.iconst 1, 1) := by decide +kernel
theorem dX9_nextWay_33 : decode cX9_nextWay 33 = .ok (.invokevirtual 87, 3) := by decide +kernel
theorem dX9_nextWay_36 : decode cX9_nextWay 36 = .ok (.if_icmp .ge 18, 3) := by decide +kernel
theorem dX9_nextWay_39 : decode cX9_nextWay 39 = .ok (.aload_n 0, 1) := by decide +kernel
theorem dX9_nextWay_40 : decode cX9_nextWay 40 = .ok (.getfield 9, 3) := by decide +kernel
theorem dX9_nextWay_43 : decode cX9_nextWay 43 = .ok (.getfield 84, 3) := by decide +kernel
theorem dX9_nextWay_46 : decode cX9_nextWay 46 = .ok (.iload_n 3, 1) := by decide +kernel
theorem dX9_nextWay_47 : decode cX9_nextWay 47 = .ok (.dup2, 1) := by decide +kernel
theorem dX9_nextWay_48 : decode cX9_nextWay 48 = .ok (.iaload, 1) := by decide +kernel
theorem dX9_nextWay_49 : decode cX9_nextWay 49 = .ok (.iconst 1, 1) := by decide +kernel
theorem dX9_nextWay_50 : decode cX9_nextWay 50 = .ok (.iadd, 1) := by decide +kernel
theorem dX9_nextWay_51 : decode cX9_nextWay 51 = .ok (.iastore, 1) := by decide +kernel
theorem dX9_nextWay_52 : decode cX9_nextWay 52 = .ok (.iconst 1, 1) := by decide +kernel
theorem dX9_nextWay_53 : decode cX9_nextWay 53 = .ok (.ireturn, 1) := by decide +kernel
theorem dX9_nextWay_54 : decode cX9_nextWay 54 = .ok (.aload_n 0, 1) := by decide +kernel
theorem dX9_nextWay_55 : decode cX9_nextWay 55 = .ok (.getfield 9, 3) := by decide +kernel
theorem dX9_nextWay_58 : decode cX9_nextWay 58 = .ok (.getfield 84, 3) := by decide +kernel
theorem dX9_nextWay_61 : decode cX9_nextWay 61 = .ok (.iload_n 3, 1) := by decide +kernel
theorem dX9_nextWay_62 : decode cX9_nextWay 62 = .ok (.aload_n 1, 1) := by decide +kernel
theorem dX9_nextWay_63 : decode cX9_nextWay 63 = .ok (.iload_n 3, 1) := by decide +kernel
theorem dX9_nextWay_64 : decode cX9_nextWay 64 = .ok (.iconst 0, 1) := by decide +kernel
theorem dX9_nextWay_65 : decode cX9_nextWay 65 = .ok (.invokevirtual 87, 3) := by decide +kernel
theorem dX9_nextWay_68 : decode cX9_nextWay 68 = .ok (.iastore, 1) := by decide +kernel
theorem dX9_nextWay_69 : decode cX9_nextWay 69 = .ok (.iinc 3 1, 3) := by decide +kernel
theorem dX9_nextWay_72 : decode cX9_nextWay 72 = .ok (.goto (-70), 3) := by decide +kernel
theorem dX9_nextWay_75 : decode cX9_nextWay 75 = .ok (.iconst 0, 1) := by decide +kernel
theorem dX9_nextWay_76 : decode cX9_nextWay 76 = .ok (.ireturn, 1) := by decide +kernel
set_option maxRecDepth 20000 in
theorem ggX10_init_X8_init : GoodIn wsX10_init wsX8_init := goodIn_r _ [40, 41, 2, 3, 42, 43, 44, 127, 128] (by decide +kernel) (by decide +kernel)
set_option maxRecDepth 20000 in
theorem gX10_init_X8_init : GoodIn wsX10_init (wsX8_init) := ggX10_init_X8_init
set_option maxRecDepth 20000 in
theorem ggX10_init_X5_init : GoodIn wsX10_init wsX5_init := goodIn_r _ [47, 48, 2, 3, 49, 50, 51, 52, 42, 53, 54, 55, 56, 57, 58, 59, 60, 61, 62, 63, 64, 65, 66, 67, 194, 195, 196, 197, 139, 140, 141, 142, 143, 144, 145, 146, 147, 148, 149, 150, 151, 152] (by decide +kernel) (by decide +kernel)
set_option maxRecDepth 20000 in
theorem gX10_init_X5_init : GoodIn wsX10_init (wsX5_init) := ggX10_init_X5_init
set_option maxRecDepth 20000 in
theorem ggX10_init_X0_init : GoodIn wsX10_init wsX0_init := goodIn_r _ [70, 71, 2, 3, 42, 72, 73, 74, 75, 76, 153, 154, 155, 156, 157, 158, 159, 160, 161] (by decide +kernel) (by decide +kernel)
set_option maxRecDepth 20000 in
theorem gX10_init_X0_init : GoodIn wsX10_init (wsX0_init) := ggX10_init_X0_init
set_option maxRecDepth 20000 in
theorem ggX10_init_X9_init : GoodIn wsX10_init wsX9_init := goodIn_r _ [79, 80, 2, 3, 81, 42, 82, 83, 84, 85, 162, 163, 164, 165, 166, 167] (by decide +kernel) (by decide +kernel)
set_option maxRecDepth 20000 in
theorem gX10_init_X9_init : GoodIn wsX10_init (wsX9_init) := ggX10_init_X9_init
set_option maxRecDepth 20000 in
theorem ggX10_init_X7_init : GoodIn wsX10_init wsX7_init := goodIn_r _ [88, 89, 2, 3, 90, 42, 91, 92, 93, 168, 169, 170, 171] (by decide +kernel) (by decide +kernel)
set_option maxRecDepth 20000 in
theorem gX10_init_X7_init : GoodIn wsX10_init (wsX7_init) := ggX10_init_X7_init
set_option maxRecDepth 20000 in
theorem ggX10_init_X6_init : GoodIn wsX10_init wsX6_init := goodIn_r _ [96, 97, 2, 3, 98, 42, 99, 100, 101, 102, 103, 104, 105, 172, 173, 174] (by decide +kernel) (by decide +kernel)
set_option maxRecDepth 20000 in
theorem gX10_init_X6_init : GoodIn wsX10_init (wsX6_init) := ggX10_init_X6_init
set_option maxRecDepth 20000 in
theorem ggX10_init_X3_init : GoodIn wsX10_init wsX3_init := goodIn_r _ [108, 109, 2, 3, 42, 110, 111, 112, 113, 114, 115, 116, 175, 176, 177, 178, 179, 180] (by decide +kernel) (by decide +kernel)
set_option maxRecDepth 20000 in
theorem gX10_init_X3_init : GoodIn wsX10_init (wsX3_init) := ggX10_init_X3_init
set_option maxRecDepth 20000 in
theorem ggX10_init_X4_init : GoodIn wsX10_init wsX4_init := goodIn_r _ [119, 120, 2, 3, 121, 122, 42, 123, 124, 111, 125, 126, 181, 182, 183, 184, 185, 186, 187, 188, 189, 190, 191, 192, 193] (by decide +kernel) (by decide +kernel)
set_option maxRecDepth 20000 in
theorem gX10_init_X4_init : GoodIn wsX10_init (wsX4_init) := ggX10_init_X4_init
theorem dX10_init_0 : decode cX10_init 0 = .ok (.aload_n 0, 1) := by decide +kernel
theorem dX10_init_1 : decode cX10_init 1 = .ok (.invokespecial 1, 3) := by decide +kernel
theorem dX10_init_4 : decode cX10_init 4 = .ok (.aload_n 0, 1) := by decide +kernel
theorem dX10_init_5 : decode cX10_init 5 = .ok (.new 7, 3) := by decide +kernel
theorem dX10_init_8 : decode cX10_init 8 = .ok (.dup, 1) := by decide +kernel
theorem dX10_init_9 : decode cX10_init 9 = .ok (.invokespecial 9, 3) := by decide +kernel
theorem dX10_init_12 : decode cX10_init 12 = .ok (.putfield 10, 3) := by decide +kernel
theorem dX10_init_15 : decode cX10_init 15 = .ok (.aload_n 0, 1) := by decide +kernel
theorem dX10_init_16 : decode cX10_init 16 = .ok (.new 16, 3) := by decide +kernel
theorem dX10_init_19 : decode cX10_init 19 = .ok (.dup, 1) := by decide +kernel
theorem dX10_init_20 : decode cX10_init 20 = .ok (.invokespecial 18, 3) := by decide +kernel
theorem dX10_init_23 : decode cX10_init 23 = .ok (.putfield 19, 3) := by decide +kernel
theorem dX10_init_26 : decode cX10_init 26 = .ok (.aload_n 0, 1) := by decide +kernel
theorem dX10_init_27 : decode cX10_init 27 = .ok (.new 23, 3) := by decide +kernel
theorem dX10_init_30 : decode cX10_init 30 = .ok (.dup, 1) := by decide +kernel
theorem dX10_init_31 : decode cX10_init 31 = .ok (.invokespecial 25, 3) := by decide +kernel
theorem dX10_init_34 : decode cX10_init 34 = .ok (.putfield 26, 3) := by decide +kernel
theorem dX10_init_37 : decode cX10_init 37 = .ok (.aload_n 0, 1) := by decide +kernel
theorem dX10_init_38 : decode cX10_init 38 = .ok (.new 30, 3) := by decide +kernel
theorem dX10_init_41 : decode cX10_init 41 = .ok (.dup, 1) := by decide +kernel
theorem dX10_init_42 : decode cX10_init 42 = .ok (.aload_n 0, 1) := by decide +kernel
theorem dX10_init_43 : decode cX10_init 43 = .ok (.getfield 26, 3) := by decide +kernel
theorem dX10_init_46 : decode cX10_init 46 = .ok (.invokespecial 32, 3) := by decide +kernel
theorem dX10_init_49 : decode cX10_init 49 = .ok (.putfield 35, 3) := by decide +kernel
theorem dX10_init_52 : decode cX10_init 52 = .ok (.aload_n 0, 1) := by decide +kernel
theorem dX10_init_53 : decode cX10_init 53 = .ok (.new 39, 3) := by decide +kernel
theorem dX10_init_56 : decode cX10_init 56 = .ok (.dup, 1) := by decide +kernel
theorem dX10_init_57 : decode cX10_init 57 = .ok (.aload_n 0, 1) := by decide +kernel
theorem dX10_init_58 : decode cX10_init 58 = .ok (.getfield 26, 3) := by decide +kernel
theorem dX10_init_61 : decode cX10_init 61 = .ok (.invokespecial 41, 3) := by decide +kernel
theorem dX10_init_64 : decode cX10_init 64 = .ok (.putfield 42, 3) := by decide +kernel
theorem dX10_init_67 : decode cX10_init 67 = .ok (.aload_n 0, 1) := by decide +kernel
theorem dX10_init_68 : decode cX10_init 68 = .ok (.new 46, 3) := by decide +kernel
theorem dX10_init_71 : decode cX10_init 71 = .ok (.dup, 1) := by decide +kernel
theorem dX10_init_72 : decode cX10_init 72 = .ok (.invokespecial 48, 3) := by decide +kernel
theorem dX10_init_75 : decode cX10_init 75 = .ok (.putfield 49, 3) := by decide +kernel
theorem dX10_init_78 : decode cX10_init 78 = .ok (.aload_n 0, 1) := by decide +kernel
theorem dX10_init_79 : decode cX10_init 79 = .ok (.new 53, 3) := by decide +kernel
theorem dX10_init_82 : decode cX10_init 82 = .ok (.dup, 1) := by decide +kernel
theorem dX10_init_83 : decode cX10_init 83 = .ok (.invokespecial 55, 3) := by decide +kernel
theorem dX10_init_86 : decode cX10_init 86 = .ok (.putfield 56, 3) := by decide +kernel
theorem dX10_init_89 : decode cX10_init 89 = .ok (.aload_n 0, 1) := by decide +kernel
theorem dX10_init_90 : decode cX10_init 90 = .ok (.new 53, 3) := by decide +kernel
theorem dX10_init_93 : decode cX10_init 93 = .ok (.dup, 1) := by decide +kernel
theorem dX10_init_94 : decode cX10_init 94 = .ok (.invokespecial 55, 3) := by decide +kernel
theorem dX10_init_97 : decode cX10_init 97 = .ok (.putfield 60, 3) := by decide +kernel
theorem dX10_init_100 : decode cX10_init 100 = .ok (.aload_n 0, 1) := by decide +kernel
theorem dX10_init_101 : decode cX10_init 101 = .ok (.new 63, 3) := by decide +kernel
theorem dX10_init_104 : decode cX10_init 104 = .ok (.dup, 1) := by decide +kernel
theorem dX10_init_105 : decode cX10_init 105 = .ok (.aload_n 0, 1) := by decide +kernel
theorem dX10_init_106 : decode cX10_init 106 = .ok (.getfield 10, 3) := by decide +kernel
theorem dX10_init_109 : decode cX10_init 109 = .ok (.aload_n 0, 1) := by decide +kernel
theorem dX10_init_110 : decode cX10_init 110 = .ok (.getfield 60, 3) := by decide +kernel
theorem dX10_init_113 : decode cX10_init 113 = .ok (.invokespecial 65, 3) := by decide +kernel
theorem dX10_init_116 : decode cX10_init 116 = .ok (.putfield 68, 3) := by decide +kernel
theorem dX10_init_119 : decode cX10_init 119 = .ok (.aload_n 0, 1) := by decide +kernel
theorem dX10_init_120 : decode cX10_init 120 = .ok (.iconst 0, 1) := by decide +kernel
theorem dX10_init_121 : decode cX10_init 121 = .ok (.putfield 72, 3) := by decide +kernel
theorem dX10_init_124 : decode cX10_init 124 = .ok (.return_, 1) := by decide +kernel
set_option maxRecDepth 20000 in
theorem ggX10_feed_X8_push : GoodIn wsX10_feed wsX8_push := goodIn_r _ [7, 8, 9, 20, 21] (by decide +kernel) (by decide +kernel)
set_option maxRecDepth 20000 in
theorem gX10_feed_X8_push : GoodIn wsX10_feed (wsV RX10 76 RX8 yX8_push wsX8_push) := goodIn_app (goodIn_of _ (by decide +kernel)) ggX10_feed_X8_push
theorem dX10_feed_0 : decode cX10_feed 0 = .ok (.aload_n 0, 1) := by decide +kernel
theorem dX10_feed_1 : decode cX10_feed 1 = .ok (.getfield 10, 3) := by decide +kernel
theorem dX10_feed_4 : decode cX10_feed 4 = .ok (.lload_n 1, 1) := by decide +kernel
theorem dX10_feed_5 : decode cX10_feed 5 = .ok (.invokevirtual 76, 3) := by decide +kernel
theorem dX10_feed_8 : decode cX10_feed 8 = .ok (.ifCond .eq 13, 3) := by decide +kernel
theorem dX10_feed_11 : decode cX10_feed 11 = .ok (.aload_n 0, 1) := by decide +kernel
theorem dX10_feed_12 : decode cX10_feed 12 = .ok (.getfield 10, 3) := by decide +kernel
theorem dX10_feed_15 : decode cX10_feed 15 = .ok (.getfield 80, 3) := by decide +kernel
theorem dX10_feed_18 : decode cX10_feed 18 = .ok (.goto 5, 3) := by decide +kernel
theorem dX10_feed_21 : decode cX10_feed 21 = .ok (.bipush (-3), 2) := by decide +kernel
theorem dX10_feed_23 : decode cX10_feed 23 = .ok (.ireturn, 1) := by decide +kernel
theorem dX10_end_0 : decode cX10_end 0 = .ok (.iload_n 1, 1) := by decide +kernel
theorem dX10_end_1 : decode cX10_end 1 = .ok (.ifCond .lt 14, 3) := by decide +kernel
theorem dX10_end_4 : decode cX10_end 4 = .ok (.iload_n 1, 1) := by decide +kernel
theorem dX10_end_5 : decode cX10_end 5 = .ok (.aload_n 0, 1) := by decide +kernel
theorem dX10_end_6 : decode cX10_end 6 = .ok (.getfield 10, 3) := by decide +kernel
theorem dX10_end_9 : decode cX10_end 9 = .ok (.getfield 80, 3) := by decide +kernel
theorem dX10_end_12 : decode cX10_end 12 = .ok (.if_icmp .le 5, 3) := by decide +kernel
theorem dX10_end_15 : decode cX10_end 15 = .ok (.iconst (-1), 1) := by decide +kernel
theorem dX10_end_16 : decode cX10_end 16 = .ok (.ireturn, 1) := by decide +kernel
theorem dX10_end_17 : decode cX10_end 17 = .ok (.aload_n 0, 1) := by decide +kernel
theorem dX10_end_18 : decode cX10_end 18 = .ok (.getfield 10, 3) := by decide +kernel
theorem dX10_end_21 : decode cX10_end 21 = .ok (.getfield 80, 3) := by decide +kernel
theorem dX10_end_24 : decode cX10_end 24 = .ok (.istore_n 2, 1) := by decide +kernel
theorem dX10_end_25 : decode cX10_end 25 = .ok (.aload_n 0, 1) := by decide +kernel
theorem dX10_end_26 : decode cX10_end 26 = .ok (.getfield 10, 3) := by decide +kernel
theorem dX10_end_29 : decode cX10_end 29 = .ok (.iload_n 1, 1) := by decide +kernel
theorem dX10_end_30 : decode cX10_end 30 = .ok (.putfield 80, 3) := by decide +kernel
theorem dX10_end_33 : decode cX10_end 33 = .ok (.iload_n 2, 1) := by decide +kernel
theorem dX10_end_34 : decode cX10_end 34 = .ok (.ireturn, 1) := by decide +kernel
set_option maxRecDepth 20000 in
theorem ggX10_text_X4_readText : GoodIn wsX10_text wsX4_readText := goodIn_r _ [14, 15, 16, 17, 18, 19, 20, 21, 22, 23, 24, 25, 26, 27, 28, 29, 30, 31, 32, 33, 34, 35, 36, 37, 13, 38, 39, 40, 41, 42, 43, 44, 45, 46, 47, 48, 49, 50, 51, 52, 53, 54, 55, 56, 57, 58, 59, 60, 61, 62, 63, 64, 65, 66, 67, 68, 69, 70, 71, 72, 73, 74, 75, 76, 77, 78, 79, 80, 81, 82, 83, 84, 85, 86, 87, 88, 89, 90, 91, 92, 93, 94, 95, 96, 97, 98, 99, 100, 101, 102, 103, 104, 105, 106, 107, 108, 109, 110, 111, 112, 113, 114, 115, 116, 117, 118, 119, 120, 121, 122, 123, 124, 125, 126, 127, 128, 129, 130, 131, 132, 133, 134, 135, 136, 137, 138, 139, 140, 141, 142, 143, 144, 145, 146, 147, 148, 149, 150, 151, 152, 153, 154, 155, 156, 157, 158, 159, 160, 161, 162, 163, 164, 165, 166, 167, 168, 169, 170, 171, 172, 173, 174, 175, 176, 177, 178, 179, 180, 181, 182, 183, 184, 185, 186, 187, 188, 189, 190, 191, 192, 193, 194, 195, 196, 197, 198, 199, 200, 201, 202, 203, 204, 205, 206, 207, 208, 209, 210, 211, 212, 213, 263, 264, 265, 266, 267, 268, 269, 270, 271, 272, 273, 274, 275, 276, 277, 278, 279, 280, 281, 261, 262] (by decide +kernel) (by decide +kernel)
set_option maxRecDepth 20000 in
theorem gX10_text_X4_readText : GoodIn wsX10_text (wsV RX10 83 RX4 yX4_readText wsX4_readText) := goodIn_app (goodIn_of _ (by decide +kernel)) ggX10_text_X4_readText
set_option maxRecDepth 20000 in
theorem ggX10_text_X5_reset : GoodIn wsX10_text wsX5_reset := goodIn_r _ [218, 219, 220, 221, 222, 223, 224, 225, 226, 227, 228, 229, 230, 231, 232, 233, 234, 235, 180, 181, 25, 182, 124, 282, 283, 284, 285, 286, 287, 288, 289, 290, 291, 292, 293, 294, 295, 296, 297, 298, 299, 276, 277, 278, 279, 280, 281] (by decide +kernel) (by decide +kernel)
set_option maxRecDepth 20000 in
theorem gX10_text_X5_reset : GoodIn wsX10_text (wsV RX10 93 RX5 yX5_reset wsX5_reset) := goodIn_app (goodIn_of _ (by decide +kernel)) ggX10_text_X5_reset
set_option maxRecDepth 20000 in
theorem ggX10_text_X10_forgetReckoned : GoodIn wsX10_text wsX10_forgetReckoned := goodIn_r _ [240, 241, 242, 243, 244, 245, 246, 247, 248, 249, 250, 251, 252, 253, 254, 255, 256, 257, 258, 259, 260, 300, 301, 302, 303, 304, 305, 306, 307, 308, 309] (by decide +kernel) (by decide +kernel)
set_option maxRecDepth 20000 in
theorem gX10_text_X10_forgetReckoned : GoodIn wsX10_text (wsV RX10 97 RX10 yX10_forgetReckoned wsX10_forgetReckoned) := goodIn_app (goodIn_of _ (by decide +kernel)) ggX10_text_X10_forgetReckoned
theorem dX10_text_0 : decode cX10_text 0 = .ok (.aload_n 0, 1) := by decide +kernel
theorem dX10_text_1 : decode cX10_text 1 = .ok (.getfield 68, 3) := by decide +kernel
theorem dX10_text_4 : decode cX10_text 4 = .ok (.aload_n 0, 1) := by decide +kernel
theorem dX10_text_5 : decode cX10_text 5 = .ok (.getfield 60, 3) := by decide +kernel
theorem dX10_text_8 : decode cX10_text 8 = .ok (.invokevirtual 83, 3) := by decide +kernel
theorem dX10_text_11 : decode cX10_text 11 = .ok (.istore_n 1, 1) := by decide +kernel
theorem dX10_text_12 : decode cX10_text 12 = .ok (.aload_n 0, 1) := by decide +kernel
theorem dX10_text_13 : decode cX10_text 13 = .ok (.getfield 10, 3) := by decide +kernel
theorem dX10_text_16 : decode cX10_text 16 = .ok (.iconst 0, 1) := by decide +kernel
theorem dX10_text_17 : decode cX10_text 17 = .ok (.putfield 80, 3) := by decide +kernel
theorem dX10_text_20 : decode cX10_text 20 = .ok (.aload_n 0, 1) := by decide +kernel
theorem dX10_text_21 : decode cX10_text 21 = .ok (.aload_n 0, 1) := by decide +kernel
theorem dX10_text_22 : decode cX10_text 22 = .ok (.getfield 68, 3) := by decide +kernel
theorem dX10_text_25 : decode cX10_text 25 = .ok (.getfield 87, 3) := by decide +kernel
theorem dX10_text_28 : decode cX10_text 28 = .ok (.putfield 72, 3) := by decide +kernel
theorem dX10_text_31 : decode cX10_text 31 = .ok (.aload_n 0, 1) := by decide +kernel
theorem dX10_text_32 : decode cX10_text 32 = .ok (.getfield 68, 3) := by decide +kernel
theorem dX10_text_35 : decode cX10_text 35 = .ok (.getfield 87, 3) := by decide +kernel
theorem dX10_text_38 : decode cX10_text 38 = .ok (.ifCond .eq 14, 3) := by decide +kernel
theorem dX10_text_41 : decode cX10_text 41 = .ok (.bipush (-10), 2) := by decide +kernel
theorem dX10_text_43 : decode cX10_text 43 = .ok (.aload_n 0, 1) := by decide +kernel
theorem dX10_text_44 : decode cX10_text 44 = .ok (.getfield 68, 3) := by decide +kernel
theorem dX10_text_47 : decode cX10_text 47 = .ok (.getfield 90, 3) := by decide +kernel
theorem dX10_text_50 : decode cX10_text 50 = .ok (.isub, 1) := by decide +kernel
theorem dX10_text_51 : decode cX10_text 51 = .ok (.ireturn, 1) := by decide +kernel
theorem dX10_text_52 : decode cX10_text 52 = .ok (.aload_n 0, 1) := by decide +kernel
theorem dX10_text_53 : decode cX10_text 53 = .ok (.getfield 56, 3) := by decide +kernel
theorem dX10_text_56 : decode cX10_text 56 = .ok (.astore_n 2, 1) := by decide +kernel
theorem dX10_text_57 : decode cX10_text 57 = .ok (.aload_n 0, 1) := by decide +kernel
theorem dX10_text_58 : decode cX10_text 58 = .ok (.aload_n 0, 1) := by decide +kernel
theorem dX10_text_59 : decode cX10_text 59 = .ok (.getfield 60, 3) := by decide +kernel
theorem dX10_text_62 : decode cX10_text 62 = .ok (.putfield 56, 3) := by decide +kernel
theorem dX10_text_65 : decode cX10_text 65 = .ok (.aload_n 0, 1) := by decide +kernel
theorem dX10_text_66 : decode cX10_text 66 = .ok (.aload_n 2, 1) := by decide +kernel
theorem dX10_text_67 : decode cX10_text 67 = .ok (.putfield 60, 3) := by decide +kernel
theorem dX10_text_70 : decode cX10_text 70 = .ok (.aload_n 0, 1) := by decide +kernel
theorem dX10_text_71 : decode cX10_text 71 = .ok (.getfield 19, 3) := by decide +kernel
theorem dX10_text_74 : decode cX10_text 74 = .ok (.aload_n 0, 1) := by decide +kernel
theorem dX10_text_75 : decode cX10_text 75 = .ok (.getfield 56, 3) := by decide +kernel
theorem dX10_text_78 : decode cX10_text 78 = .ok (.invokevirtual 93, 3) := by decide +kernel
theorem dX10_text_81 : decode cX10_text 81 = .ok (.aload_n 0, 1) := by decide +kernel
theorem dX10_text_82 : decode cX10_text 82 = .ok (.invokevirtual 97, 3) := by decide +kernel
theorem dX10_text_85 : decode cX10_text 85 = .ok (.iload_n 1, 1) := by decide +kernel
theorem dX10_text_86 : decode cX10_text 86 = .ok (.ireturn, 1) := by decide +kernel
theorem dX10_fault_0 : decode cX10_fault 0 = .ok (.aload_n 0, 1) := by decide +kernel
theorem dX10_fault_1 : decode cX10_fault 1 = .ok (.getfield 72, 3) := by decide +kernel
theorem dX10_fault_4 : decode cX10_fault 4 = .ok (.ireturn, 1) := by decide +kernel
set_option maxRecDepth 20000 in
theorem ggX10_rail_X3_hasRail : GoodIn wsX10_rail wsX3_hasRail := goodIn_r _ [6, 7, 23, 24, 25, 26, 27, 28] (by decide +kernel) (by decide +kernel)
set_option maxRecDepth 20000 in
theorem gX10_rail_X3_hasRail : GoodIn wsX10_rail (wsV RX10 100 RX3 yX3_hasRail wsX3_hasRail) := goodIn_app (goodIn_of _ (by decide +kernel)) ggX10_rail_X3_hasRail
set_option maxRecDepth 20000 in
theorem ggX10_rail_X3_number : GoodIn wsX10_rail wsX3_number := goodIn_r _ [11, 12, 23, 24, 25, 26, 27, 28] (by decide +kernel) (by decide +kernel)
set_option maxRecDepth 20000 in
theorem gX10_rail_X3_number : GoodIn wsX10_rail (wsV RX10 104 RX3 yX3_number wsX3_number) := goodIn_app (goodIn_of _ (by decide +kernel)) ggX10_rail_X3_number
theorem dX10_rail_0 : decode cX10_rail 0 = .ok (.aload_n 0, 1) := by decide +kernel
theorem dX10_rail_1 : decode cX10_rail 1 = .ok (.getfield 56, 3) := by decide +kernel
theorem dX10_rail_4 : decode cX10_rail 4 = .ok (.iload_n 1, 1) := by decide +kernel
theorem dX10_rail_5 : decode cX10_rail 5 = .ok (.invokevirtual 100, 3) := by decide +kernel
theorem dX10_rail_8 : decode cX10_rail 8 = .ok (.ifCond .eq 13, 3) := by decide +kernel
theorem dX10_rail_11 : decode cX10_rail 11 = .ok (.iload_n 2, 1) := by decide +kernel
theorem dX10_rail_12 : decode cX10_rail 12 = .ok (.ifCond .lt 9, 3) := by decide +kernel
theorem dX10_rail_15 : decode cX10_rail 15 = .ok (.iload_n 2, 1) := by decide +kernel
theorem dX10_rail_16 : decode cX10_rail 16 = .ok (.bipush 7, 2) := by decide +kernel
theorem dX10_rail_18 : decode cX10_rail 18 = .ok (.if_icmp .le 5, 3) := by decide +kernel
theorem dX10_rail_21 : decode cX10_rail 21 = .ok (.iconst (-1), 1) := by decide +kernel
theorem dX10_rail_22 : decode cX10_rail 22 = .ok (.ireturn, 1) := by decide +kernel
theorem dX10_rail_23 : decode cX10_rail 23 = .ok (.aload_n 0, 1) := by decide +kernel
theorem dX10_rail_24 : decode cX10_rail 24 = .ok (.getfield 56, 3) := by decide +kernel
theorem dX10_rail_27 : decode cX10_rail 27 = .ok (.iload_n 1, 1) := by decide +kernel
theorem dX10_rail_28 : decode cX10_rail 28 = .ok (.iload_n 2, 1) := by decide +kernel
theorem dX10_rail_29 : decode cX10_rail 29 = .ok (.invokevirtual 104, 3) := by decide +kernel
theorem dX10_rail_32 : decode cX10_rail 32 = .ok (.ireturn, 1) := by decide +kernel
theorem dX10_rule_0 : decode cX10_rule 0 = .ok (.iload_n 1, 1) := by decide +kernel
theorem dX10_rule_1 : decode cX10_rule 1 = .ok (.tableswitch 63 0 3 #[31, 39, 47, 55], 31) := by decide +kernel
theorem dX10_rule_32 : decode cX10_rule 32 = .ok (.aload_n 0, 1) := by decide +kernel
theorem dX10_rule_33 : decode cX10_rule 33 = .ok (.getfield 56, 3) := by decide +kernel
theorem dX10_rule_36 : decode cX10_rule 36 = .ok (.getfield 108, 3) := by decide +kernel
theorem dX10_rule_39 : decode cX10_rule 39 = .ok (.ireturn, 1) := by decide +kernel
theorem dX10_rule_40 : decode cX10_rule 40 = .ok (.aload_n 0, 1) := by decide +kernel
theorem dX10_rule_41 : decode cX10_rule 41 = .ok (.getfield 56, 3) := by decide +kernel
theorem dX10_rule_44 : decode cX10_rule 44 = .ok (.getfield 111, 3) := by decide +kernel
theorem dX10_rule_47 : decode cX10_rule 47 = .ok (.ireturn, 1) := by decide +kernel
theorem dX10_rule_48 : decode cX10_rule 48 = .ok (.aload_n 0, 1) := by decide +kernel
theorem dX10_rule_49 : decode cX10_rule 49 = .ok (.getfield 56, 3) := by decide +kernel
theorem dX10_rule_52 : decode cX10_rule 52 = .ok (.getfield 114, 3) := by decide +kernel
theorem dX10_rule_55 : decode cX10_rule 55 = .ok (.ireturn, 1) := by decide +kernel
theorem dX10_rule_56 : decode cX10_rule 56 = .ok (.aload_n 0, 1) := by decide +kernel
theorem dX10_rule_57 : decode cX10_rule 57 = .ok (.getfield 56, 3) := by decide +kernel
theorem dX10_rule_60 : decode cX10_rule 60 = .ok (.getfield 117, 3) := by decide +kernel
theorem dX10_rule_63 : decode cX10_rule 63 = .ok (.ireturn, 1) := by decide +kernel
theorem dX10_rule_64 : decode cX10_rule 64 = .ok (.iconst (-1), 1) := by decide +kernel
theorem dX10_rule_65 : decode cX10_rule 65 = .ok (.ireturn, 1) := by decide +kernel
set_option maxRecDepth 20000 in
theorem ggX10_holds_X3_hasRail : GoodIn wsX10_holds wsX3_hasRail := goodIn_r _ [6, 7, 31, 32, 33, 34, 35, 36] (by decide +kernel) (by decide +kernel)
set_option maxRecDepth 20000 in
theorem gX10_holds_X3_hasRail : GoodIn wsX10_holds (wsV RX10 100 RX3 yX3_hasRail wsX3_hasRail) := goodIn_app (goodIn_of _ (by decide +kernel)) ggX10_holds_X3_hasRail
set_option maxRecDepth 20000 in
theorem ggX10_holds_X3_allRails : GoodIn wsX10_holds wsX3_allRails := goodIn_r _ [11, 7, 31, 32, 33, 34, 35, 36] (by decide +kernel) (by decide +kernel)
set_option maxRecDepth 20000 in
theorem gX10_holds_X3_allRails : GoodIn wsX10_holds (wsV RX10 120 RX3 yX3_allRails wsX3_allRails) := goodIn_app (goodIn_of _ (by decide +kernel)) ggX10_holds_X3_allRails
set_option maxRecDepth 20000 in
theorem ggX10_holds_X3_holdsWith : GoodIn wsX10_holds wsX3_holdsWith := goodIn_r _ [15, 16, 31, 32, 33, 34, 35, 36] (by decide +kernel) (by decide +kernel)
set_option maxRecDepth 20000 in
theorem gX10_holds_X3_holdsWith : GoodIn wsX10_holds (wsV RX10 124 RX3 yX3_holdsWith wsX3_holdsWith) := goodIn_app (goodIn_of _ (by decide +kernel)) ggX10_holds_X3_holdsWith
set_option maxRecDepth 20000 in
theorem ggX10_holds_X10_asNumber : GoodIn wsX10_holds wsX10_asNumber := goodIn_r _ [20] (by decide +kernel) (by decide +kernel)
set_option maxRecDepth 20000 in
theorem gX10_holds_X10_asNumber : GoodIn wsX10_holds (va_wsS RX10 128 yX10_asNumber wsX10_asNumber) := goodIn_app (goodIn_of _ (by decide +kernel)) ggX10_holds_X10_asNumber
theorem dX10_holds_0 : decode cX10_holds 0 = .ok (.aload_n 0, 1) := by decide +kernel
theorem dX10_holds_1 : decode cX10_holds 1 = .ok (.getfield 56, 3) := by decide +kernel
theorem dX10_holds_4 : decode cX10_holds 4 = .ok (.iload_n 1, 1) := by decide +kernel
theorem dX10_holds_5 : decode cX10_holds 5 = .ok (.invokevirtual 100, 3) := by decide +kernel
theorem dX10_holds_8 : decode cX10_holds 8 = .ok (.ifCond .eq 21, 3) := by decide +kernel
theorem dX10_holds_11 : decode cX10_holds 11 = .ok (.iload_n 2, 1) := by decide +kernel
theorem dX10_holds_12 : decode cX10_holds 12 = .ok (.aload_n 0, 1) := by decide +kernel
theorem dX10_holds_13 : decode cX10_holds 13 = .ok (.getfield 56, 3) := by decide +kernel
theorem dX10_holds_16 : decode cX10_holds 16 = .ok (.invokevirtual 120, 3) := by decide +kernel
theorem dX10_holds_19 : decode cX10_holds 19 = .ok (.sipush 256, 3) := by decide +kernel
theorem dX10_holds_22 : decode cX10_holds 22 = .ok (.ior, 1) := by decide +kernel
theorem dX10_holds_23 : decode cX10_holds 23 = .ok (.iconst (-1), 1) := by decide +kernel
theorem dX10_holds_24 : decode cX10_holds 24 = .ok (.ixor, 1) := by decide +kernel
theorem dX10_holds_25 : decode cX10_holds 25 = .ok (.iand, 1) := by decide +kernel
theorem dX10_holds_26 : decode cX10_holds 26 = .ok (.ifCond .eq 5, 3) := by decide +kernel
theorem dX10_holds_29 : decode cX10_holds 29 = .ok (.iconst (-1), 1) := by decide +kernel
theorem dX10_holds_30 : decode cX10_holds 30 = .ok (.ireturn, 1) := by decide +kernel
theorem dX10_holds_31 : decode cX10_holds 31 = .ok (.aload_n 0, 1) := by decide +kernel
theorem dX10_holds_32 : decode cX10_holds 32 = .ok (.getfield 56, 3) := by decide +kernel
theorem dX10_holds_35 : decode cX10_holds 35 = .ok (.iload_n 1, 1) := by decide +kernel
theorem dX10_holds_36 : decode cX10_holds 36 = .ok (.iload_n 2, 1) := by decide +kernel
theorem dX10_holds_37 : decode cX10_holds 37 = .ok (.invokevirtual 124, 3) := by decide +kernel
theorem dX10_holds_40 : decode cX10_holds 40 = .ok (.invokestatic 128, 3) := by decide +kernel
theorem dX10_holds_43 : decode cX10_holds 43 = .ok (.ireturn, 1) := by decide +kernel
set_option maxRecDepth 20000 in
theorem ggX10_words_X3_hasRail : GoodIn wsX10_words wsX3_hasRail := goodIn_r _ [6, 7, 35, 36, 37, 38, 39, 40] (by decide +kernel) (by decide +kernel)
set_option maxRecDepth 20000 in
theorem gX10_words_X3_hasRail : GoodIn wsX10_words (wsV RX10 100 RX3 yX3_hasRail wsX3_hasRail) := goodIn_app (goodIn_of _ (by decide +kernel)) ggX10_words_X3_hasRail
set_option maxRecDepth 20000 in
theorem ggX10_words_X3_countLeastSets : GoodIn wsX10_words wsX3_countLeastSets := goodIn_r _ [11, 12, 13, 14, 5, 15, 16, 17, 18, 19, 20, 35, 36, 37, 38, 39, 40] (by decide +kernel) (by decide +kernel)
set_option maxRecDepth 20000 in
theorem gX10_words_X3_countLeastSets : GoodIn wsX10_words (wsV RX10 132 RX3 yX3_countLeastSets wsX3_countLeastSets) := goodIn_app (goodIn_of _ (by decide +kernel)) ggX10_words_X3_countLeastSets
set_option maxRecDepth 20000 in
theorem ggX10_words_X3_leastSet : GoodIn wsX10_words wsX3_leastSet := goodIn_r _ [24, 12, 13, 14, 5, 15, 16, 17, 18, 19, 20, 35, 36, 37, 38, 39, 40] (by decide +kernel) (by decide +kernel)
set_option maxRecDepth 20000 in
theorem gX10_words_X3_leastSet : GoodIn wsX10_words (wsV RX10 136 RX3 yX3_leastSet wsX3_leastSet) := goodIn_app (goodIn_of _ (by decide +kernel)) ggX10_words_X3_leastSet
theorem dX10_words_0 : decode cX10_words 0 = .ok (.aload_n 0, 1) := by decide +kernel
theorem dX10_words_1 : decode cX10_words 1 = .ok (.getfield 56, 3) := by decide +kernel
theorem dX10_words_4 : decode cX10_words 4 = .ok (.iload_n 1, 1) := by decide +kernel
theorem dX10_words_5 : decode cX10_words 5 = .ok (.invokevirtual 100, 3) := by decide +kernel
theorem dX10_words_8 : decode cX10_words 8 = .ok (.ifCond .eq 13, 3) := by decide +kernel
theorem dX10_words_11 : decode cX10_words 11 = .ok (.iload_n 2, 1) := by decide +kernel
theorem dX10_words_12 : decode cX10_words 12 = .ok (.ifCond .eq 11, 3) := by decide +kernel
theorem dX10_words_15 : decode cX10_words 15 = .ok (.iload_n 2, 1) := by decide +kernel
theorem dX10_words_16 : decode cX10_words 16 = .ok (.bipush 10, 2) := by decide +kernel
theorem dX10_words_18 : decode cX10_words 18 = .ok (.if_icmp .ge 5, 3) := by decide +kernel
theorem dX10_words_21 : decode cX10_words 21 = .ok (.iconst (-1), 1) := by decide +kernel
theorem dX10_words_22 : decode cX10_words 22 = .ok (.ireturn, 1) := by decide +kernel
theorem dX10_words_23 : decode cX10_words 23 = .ok (.iload_n 2, 1) := by decide +kernel
theorem dX10_words_24 : decode cX10_words 24 = .ok (.ifCond .ne 12, 3) := by decide +kernel
theorem dX10_words_27 : decode cX10_words 27 = .ok (.aload_n 0, 1) := by decide +kernel
theorem dX10_words_28 : decode cX10_words 28 = .ok (.getfield 56, 3) := by decide +kernel
theorem dX10_words_31 : decode cX10_words 31 = .ok (.iload_n 1, 1) := by decide +kernel
theorem dX10_words_32 : decode cX10_words 32 = .ok (.invokevirtual 132, 3) := by decide +kernel
theorem dX10_words_35 : decode cX10_words 35 = .ok (.ireturn, 1) := by decide +kernel
theorem dX10_words_36 : decode cX10_words 36 = .ok (.aload_n 0, 1) := by decide +kernel
theorem dX10_words_37 : decode cX10_words 37 = .ok (.getfield 56, 3) := by decide +kernel
theorem dX10_words_40 : decode cX10_words 40 = .ok (.iload_n 1, 1) := by decide +kernel
theorem dX10_words_41 : decode cX10_words 41 = .ok (.iload_n 2, 1) := by decide +kernel
theorem dX10_words_42 : decode cX10_words 42 = .ok (.bipush 10, 2) := by decide +kernel
theorem dX10_words_44 : decode cX10_words 44 = .ok (.isub, 1) := by decide +kernel
theorem dX10_words_45 : decode cX10_words 45 = .ok (.invokevirtual 136, 3) := by decide +kernel
theorem dX10_words_48 : decode cX10_words 48 = .ok (.ireturn, 1) := by decide +kernel
set_option maxRecDepth 20000 in
theorem ggX10_key_X10_asNumber : GoodIn wsX10_key wsX10_asNumber := goodIn_r _ [7] (by decide +kernel) (by decide +kernel)
set_option maxRecDepth 20000 in
theorem gX10_key_X10_asNumber : GoodIn wsX10_key (va_wsS RX10 128 yX10_asNumber wsX10_asNumber) := goodIn_app (goodIn_of _ (by decide +kernel)) ggX10_key_X10_asNumber
set_option maxRecDepth 20000 in
theorem ggX10_key_X5_turnKey : GoodIn wsX10_key wsX5_turnKey := goodIn_r _ [12, 13, 14, 15, 16, 27, 28, 29, 30, 31, 32, 33, 34, 35, 36, 37, 38, 39, 40, 41, 42, 43, 44, 45, 46] (by decide +kernel) (by decide +kernel)
set_option maxRecDepth 20000 in
theorem gX10_key_X5_turnKey : GoodIn wsX10_key (wsV RX10 143 RX5 yX5_turnKey wsX5_turnKey) := goodIn_app (goodIn_of _ (by decide +kernel)) ggX10_key_X5_turnKey
theorem dX10_key_0 : decode cX10_key 0 = .ok (.aload_n 0, 1) := by decide +kernel
theorem dX10_key_1 : decode cX10_key 1 = .ok (.getfield 19, 3) := by decide +kernel
theorem dX10_key_4 : decode cX10_key 4 = .ok (.getfield 139, 3) := by decide +kernel
theorem dX10_key_7 : decode cX10_key 7 = .ok (.invokestatic 128, 3) := by decide +kernel
theorem dX10_key_10 : decode cX10_key 10 = .ok (.istore_n 2, 1) := by decide +kernel
theorem dX10_key_11 : decode cX10_key 11 = .ok (.aload_n 0, 1) := by decide +kernel
theorem dX10_key_12 : decode cX10_key 12 = .ok (.getfield 19, 3) := by decide +kernel
theorem dX10_key_15 : decode cX10_key 15 = .ok (.aload_n 0, 1) := by decide +kernel
theorem dX10_key_16 : decode cX10_key 16 = .ok (.getfield 56, 3) := by decide +kernel
theorem dX10_key_19 : decode cX10_key 19 = .ok (.iload_n 1, 1) := by decide +kernel
theorem dX10_key_20 : decode cX10_key 20 = .ok (.invokevirtual 143, 3) := by decide +kernel
theorem dX10_key_23 : decode cX10_key 23 = .ok (.iload_n 2, 1) := by decide +kernel
theorem dX10_key_24 : decode cX10_key 24 = .ok (.ireturn, 1) := by decide +kernel
set_option maxRecDepth 20000 in
theorem ggX10_dead_X3_hasRail : GoodIn wsX10_dead wsX3_hasRail := goodIn_r _ [8, 9, 52, 53, 54, 55, 56, 57] (by decide +kernel) (by decide +kernel)
set_option maxRecDepth 20000 in
theorem gX10_dead_X3_hasRail : GoodIn wsX10_dead (wsV RX10 100 RX3 yX3_hasRail wsX3_hasRail) := goodIn_app (goodIn_of _ (by decide +kernel)) ggX10_dead_X3_hasRail
set_option maxRecDepth 20000 in
theorem ggX10_dead_X10_asNumber : GoodIn wsX10_dead wsX10_asNumber := goodIn_r _ [13] (by decide +kernel) (by decide +kernel)
set_option maxRecDepth 20000 in
theorem gX10_dead_X10_asNumber : GoodIn wsX10_dead (va_wsS RX10 128 yX10_asNumber wsX10_asNumber) := goodIn_app (goodIn_of _ (by decide +kernel)) ggX10_dead_X10_asNumber
set_option maxRecDepth 20000 in
theorem ggX10_dead_X10_forgetReckoned : GoodIn wsX10_dead wsX10_forgetReckoned := goodIn_r _ [17, 18, 19, 20, 21, 22, 23, 24, 25, 26, 27, 28, 29, 30, 31, 32, 33, 34, 35, 36, 37, 58, 59, 60, 61, 62, 63, 64, 65, 66, 67] (by decide +kernel) (by decide +kernel)
set_option maxRecDepth 20000 in
theorem gX10_dead_X10_forgetReckoned : GoodIn wsX10_dead (wsV RX10 97 RX10 yX10_forgetReckoned wsX10_forgetReckoned) := goodIn_app (goodIn_of _ (by decide +kernel)) ggX10_dead_X10_forgetReckoned
theorem dX10_dead_0 : decode cX10_dead 0 = .ok (.aload_n 0, 1) := by decide +kernel
theorem dX10_dead_1 : decode cX10_dead 1 = .ok (.getfield 56, 3) := by decide +kernel
theorem dX10_dead_4 : decode cX10_dead 4 = .ok (.iload_n 1, 1) := by decide +kernel
theorem dX10_dead_5 : decode cX10_dead 5 = .ok (.invokevirtual 100, 3) := by decide +kernel
theorem dX10_dead_8 : decode cX10_dead 8 = .ok (.ifCond .ne 5, 3) := by decide +kernel
theorem dX10_dead_11 : decode cX10_dead 11 = .ok (.iconst (-1), 1) := by decide +kernel
theorem dX10_dead_12 : decode cX10_dead 12 = .ok (.ireturn, 1) := by decide +kernel
theorem dX10_dead_13 : decode cX10_dead 13 = .ok (.iconst 1, 1) := by decide +kernel
theorem dX10_dead_14 : decode cX10_dead 14 = .ok (.iload_n 1, 1) := by decide +kernel
theorem dX10_dead_15 : decode cX10_dead 15 = .ok (.ishl, 1) := by decide +kernel
theorem dX10_dead_16 : decode cX10_dead 16 = .ok (.istore_n 3, 1) := by decide +kernel
theorem dX10_dead_17 : decode cX10_dead 17 = .ok (.aload_n 0, 1) := by decide +kernel
theorem dX10_dead_18 : decode cX10_dead 18 = .ok (.getfield 19, 3) := by decide +kernel
theorem dX10_dead_21 : decode cX10_dead 21 = .ok (.getfield 147, 3) := by decide +kernel
theorem dX10_dead_24 : decode cX10_dead 24 = .ok (.iload_n 3, 1) := by decide +kernel
theorem dX10_dead_25 : decode cX10_dead 25 = .ok (.iand, 1) := by decide +kernel
theorem dX10_dead_26 : decode cX10_dead 26 = .ok (.ifCond .eq 7, 3) := by decide +kernel
theorem dX10_dead_29 : decode cX10_dead 29 = .ok (.iconst 1, 1) := by decide +kernel
theorem dX10_dead_30 : decode cX10_dead 30 = .ok (.goto 4, 3) := by decide +kernel
theorem dX10_dead_33 : decode cX10_dead 33 = .ok (.iconst 0, 1) := by decide +kernel
theorem dX10_dead_34 : decode cX10_dead 34 = .ok (.invokestatic 128, 3) := by decide +kernel
theorem dX10_dead_37 : decode cX10_dead 37 = .ok (.istore 4, 2) := by decide +kernel
theorem dX10_dead_39 : decode cX10_dead 39 = .ok (.aload_n 0, 1) := by decide +kernel
theorem dX10_dead_40 : decode cX10_dead 40 = .ok (.getfield 19, 3) := by decide +kernel
theorem dX10_dead_43 : decode cX10_dead 43 = .ok (.iload_n 2, 1) := by decide +kernel
theorem dX10_dead_44 : decode cX10_dead 44 = .ok (.ifCond .eq 15, 3) := by decide +kernel
theorem dX10_dead_47 : decode cX10_dead 47 = .ok (.aload_n 0, 1) := by decide +kernel
theorem dX10_dead_48 : decode cX10_dead 48 = .ok (.getfield 19, 3) := by decide +kernel
theorem dX10_dead_51 : decode cX10_dead 51 = .ok (.getfield 147, 3) := by decide +kernel
theorem dX10_dead_54 : decode cX10_dead 54 = .ok (.iload_n 3, 1) := by decide +kernel
theorem dX10_dead_55 : decode cX10_dead 55 = .ok (.ior, 1) := by decide +kernel
theorem dX10_dead_56 : decode cX10_dead 56 = .ok (.goto 14, 3) := by decide +kernel
theorem dX10_dead_59 : decode cX10_dead 59 = .ok (.aload_n 0, 1) := by decide +kernel
theorem dX10_dead_60 : decode cX10_dead 60 = .ok (.getfield 19, 3) := by decide +kernel
theorem dX10_dead_63 : decode cX10_dead 63 = .ok (.getfield 147, 3) := by decide +kernel
theorem dX10_dead_66 : decode cX10_dead 66 = .ok (.iload_n 3, 1) := by decide +kernel
theorem dX10_dead_67 : decode cX10_dead 67 = .ok (.iconst (-1), 1) := by decide +kernel
theorem dX10_dead_68 : decode cX10_dead 68 = .ok (.ixor, 1) := by decide +kernel
theorem dX10_dead_69 : decode cX10_dead 69 = .ok (.iand, 1) := by decide +kernel
theorem dX10_dead_70 : decode cX10_dead 70 = .ok (.putfield 147, 3) := by decide +kernel
theorem dX10_dead_73 : decode cX10_dead 73 = .ok (.aload_n 0, 1) := by decide +kernel
theorem dX10_dead_74 : decode cX10_dead 74 = .ok (.invokevirtual 97, 3) := by decide +kernel
theorem dX10_dead_77 : decode cX10_dead 77 = .ok (.iload 4, 2) := by decide +kernel
theorem dX10_dead_79 : decode cX10_dead 79 = .ok (.ireturn, 1) := by decide +kernel
set_option maxRecDepth 20000 in
theorem ggX10_time_X3_hasRail : GoodIn wsX10_time wsX3_hasRail := goodIn_r _ [8, 9, 54, 55, 56, 57, 58, 59] (by decide +kernel) (by decide +kernel)
set_option maxRecDepth 20000 in
theorem gX10_time_X3_hasRail : GoodIn wsX10_time (wsV RX10 100 RX3 yX3_hasRail wsX3_hasRail) := goodIn_app (goodIn_of _ (by decide +kernel)) ggX10_time_X3_hasRail
set_option maxRecDepth 20000 in
theorem ggX10_time_X3_number : GoodIn wsX10_time wsX3_number := goodIn_r _ [13, 14, 54, 55, 56, 57, 58, 59] (by decide +kernel) (by decide +kernel)
set_option maxRecDepth 20000 in
theorem gX10_time_X3_number : GoodIn wsX10_time (wsV RX10 104 RX3 yX3_number wsX3_number) := goodIn_app (goodIn_of _ (by decide +kernel)) ggX10_time_X3_number
set_option maxRecDepth 20000 in
theorem ggX10_time_X10_forgetReckoned : GoodIn wsX10_time wsX10_forgetReckoned := goodIn_r _ [19, 20, 21, 22, 23, 24, 25, 26, 27, 28, 29, 30, 31, 32, 33, 34, 35, 36, 37, 38, 39, 60, 61, 62, 63, 64, 65, 66, 67, 68, 69] (by decide +kernel) (by decide +kernel)
set_option maxRecDepth 20000 in
theorem gX10_time_X10_forgetReckoned : GoodIn wsX10_time (wsV RX10 97 RX10 yX10_forgetReckoned wsX10_forgetReckoned) := goodIn_app (goodIn_of _ (by decide +kernel)) ggX10_time_X10_forgetReckoned
theorem dX10_time_0 : decode cX10_time 0 = .ok (.aload_n 0, 1) := by decide +kernel
theorem dX10_time_1 : decode cX10_time 1 = .ok (.getfield 56, 3) := by decide +kernel
theorem dX10_time_4 : decode cX10_time 4 = .ok (.iload_n 1, 1) := by decide +kernel
theorem dX10_time_5 : decode cX10_time 5 = .ok (.invokevirtual 100, 3) := by decide +kernel
theorem dX10_time_8 : decode cX10_time 8 = .ok (.ifCond .eq 29, 3) := by decide +kernel
theorem dX10_time_11 : decode cX10_time 11 = .ok (.iload_n 2, 1) := by decide +kernel
theorem dX10_time_12 : decode cX10_time 12 = .ok (.aload_n 0, 1) := by decide +kernel
theorem dX10_time_13 : decode cX10_time 13 = .ok (.getfield 56, 3) := by decide +kernel
theorem dX10_time_16 : decode cX10_time 16 = .ok (.iload_n 1, 1) := by decide +kernel
theorem dX10_time_17 : decode cX10_time 17 = .ok (.iconst 0, 1) := by decide +kernel
theorem dX10_time_18 : decode cX10_time 18 = .ok (.invokevirtual 104, 3) := by decide +kernel
theorem dX10_time_21 : decode cX10_time 21 = .ok (.if_icmp .lt 16, 3) := by decide +kernel
theorem dX10_time_24 : decode cX10_time 24 = .ok (.iload_n 2, 1) := by decide +kernel
theorem dX10_time_25 : decode cX10_time 25 = .ok (.aload_n 0, 1) := by decide +kernel
theorem dX10_time_26 : decode cX10_time 26 = .ok (.getfield 56, 3) := by decide +kernel
theorem dX10_time_29 : decode cX10_time 29 = .ok (.iload_n 1, 1) := by decide +kernel
theorem dX10_time_30 : decode cX10_time 30 = .ok (.iconst 1, 1) := by decide +kernel
theorem dX10_time_31 : decode cX10_time 31 = .ok (.invokevirtual 104, 3) := by decide +kernel
theorem dX10_time_34 : decode cX10_time 34 = .ok (.if_icmp .le 5, 3) := by decide +kernel
theorem dX10_time_37 : decode cX10_time 37 = .ok (.iconst (-1), 1) := by decide +kernel
theorem dX10_time_38 : decode cX10_time 38 = .ok (.ireturn, 1) := by decide +kernel
theorem dX10_time_39 : decode cX10_time 39 = .ok (.aload_n 0, 1) := by decide +kernel
theorem dX10_time_40 : decode cX10_time 40 = .ok (.getfield 19, 3) := by decide +kernel
theorem dX10_time_43 : decode cX10_time 43 = .ok (.getfield 150, 3) := by decide +kernel
theorem dX10_time_46 : decode cX10_time 46 = .ok (.iload_n 1, 1) := by decide +kernel
theorem dX10_time_47 : decode cX10_time 47 = .ok (.iaload, 1) := by decide +kernel
theorem dX10_time_48 : decode cX10_time 48 = .ok (.istore_n 3, 1) := by decide +kernel
theorem dX10_time_49 : decode cX10_time 49 = .ok (.aload_n 0, 1) := by decide +kernel
theorem dX10_time_50 : decode cX10_time 50 = .ok (.getfield 19, 3) := by decide +kernel
theorem dX10_time_53 : decode cX10_time 53 = .ok (.getfield 150, 3) := by decide +kernel
theorem dX10_time_56 : decode cX10_time 56 = .ok (.iload_n 1, 1) := by decide +kernel
theorem dX10_time_57 : decode cX10_time 57 = .ok (.iload_n 2, 1) := by decide +kernel
theorem dX10_time_58 : decode cX10_time 58 = .ok (.iastore, 1) := by decide +kernel
theorem dX10_time_59 : decode cX10_time 59 = .ok (.aload_n 0, 1) := by decide +kernel
theorem dX10_time_60 : decode cX10_time 60 = .ok (.invokevirtual 97, 3) := by decide +kernel
theorem dX10_time_63 : decode cX10_time 63 = .ok (.iload_n 3, 1) := by decide +kernel
theorem dX10_time_64 : decode cX10_time 64 = .ok (.ireturn, 1) := by decide +kernel
set_option maxRecDepth 20000 in
theorem ggX10_go_X5_passTick : GoodIn wsX10_go wsX5_passTick := goodIn_r _ [8, 9, 10, 11, 12, 13, 14, 15, 16, 17, 7, 18, 19, 20, 21, 22, 23, 24, 25, 26, 27, 28, 29, 30, 31, 32, 33, 34, 35, 36, 37, 38, 39, 40, 41, 42, 43, 44, 45, 46, 47, 48, 49, 50, 51, 52, 53, 54, 55, 56, 57, 58, 59, 60, 61, 62, 63, 64, 65, 66, 67, 68, 69, 70, 71, 72, 73, 74, 75, 76, 77, 78, 79, 80, 81, 82, 83, 84, 85, 86, 87, 88, 89, 100, 101, 102, 103, 104, 105, 106, 107, 108, 109, 110, 111, 112, 113, 114, 115, 116, 117, 118, 119, 120, 121, 122, 123] (by decide +kernel) (by decide +kernel)
set_option maxRecDepth 20000 in
theorem gX10_go_X5_passTick : GoodIn wsX10_go (wsV RX10 157 RX5 yX5_passTick wsX5_passTick) := goodIn_app (goodIn_of _ (by decide +kernel)) ggX10_go_X5_passTick
theorem dX10_go_0 : decode cX10_go 0 = .ok (.iload_n 1, 1) := by decide +kernel
theorem dX10_go_1 : decode cX10_go 1 = .ok (.iconst 1, 1) := by decide +kernel
theorem dX10_go_2 : decode cX10_go 2 = .ok (.if_icmp .lt 10, 3) := by decide +kernel
theorem dX10_go_5 : decode cX10_go 5 = .ok (.iload_n 1, 1) := by decide +kernel
theorem dX10_go_6 : decode cX10_go 6 = .ok (.sipush 999, 3) := by decide +kernel
theorem dX10_go_9 : decode cX10_go 9 = .ok (.if_icmp .le 5, 3) := by decide +kernel
theorem dX10_go_12 : decode cX10_go 12 = .ok (.iconst (-1), 1) := by decide +kernel
theorem dX10_go_13 : decode cX10_go 13 = .ok (.ireturn, 1) := by decide +kernel
theorem dX10_go_14 : decode cX10_go 14 = .ok (.aload_n 0, 1) := by decide +kernel
theorem dX10_go_15 : decode cX10_go 15 = .ok (.getfield 19, 3) := by decide +kernel
theorem dX10_go_18 : decode cX10_go 18 = .ok (.getfield 154, 3) := by decide +kernel
theorem dX10_go_21 : decode cX10_go 21 = .ok (.istore_n 2, 1) := by decide +kernel
theorem dX10_go_22 : decode cX10_go 22 = .ok (.iconst 0, 1) := by decide +kernel
theorem dX10_go_23 : decode cX10_go 23 = .ok (.istore_n 3, 1) := by decide +kernel
theorem dX10_go_24 : decode cX10_go 24 = .ok (.iload_n 3, 1) := by decide +kernel
theorem dX10_go_25 : decode cX10_go 25 = .ok (.iload_n 1, 1) := by decide +kernel
theorem dX10_go_26 : decode cX10_go 26 = .ok (.if_icmp .ge 20, 3) := by decide +kernel
theorem dX10_go_29 : decode cX10_go 29 = .ok (.aload_n 0, 1) := by decide +kernel
theorem dX10_go_30 : decode cX10_go 30 = .ok (.getfield 19, 3) := by decide +kernel
theorem dX10_go_33 : decode cX10_go 33 = .ok (.aload_n 0, 1) := by decide +kernel
theorem dX10_go_34 : decode cX10_go 34 = .ok (.getfield 56, 3) := by decide +kernel
theorem dX10_go_37 : decode cX10_go 37 = .ok (.invokevirtual 157, 3) := by decide +kernel
theorem dX10_go_40 : decode cX10_go 40 = .ok (.iinc 3 1, 3) := by decide +kernel
theorem dX10_go_43 : decode cX10_go 43 = .ok (.goto (-19), 3) := by decide +kernel
theorem dX10_go_46 : decode cX10_go 46 = .ok (.aload_n 0, 1) := by decide +kernel
theorem dX10_go_47 : decode cX10_go 47 = .ok (.getfield 19, 3) := by decide +kernel
theorem dX10_go_50 : decode cX10_go 50 = .ok (.getfield 154, 3) := by decide +kernel
theorem dX10_go_53 : decode cX10_go 53 = .ok (.iload_n 2, 1) := by decide +kernel
theorem dX10_go_54 : decode cX10_go 54 = .ok (.isub, 1) := by decide +kernel
theorem dX10_go_55 : decode cX10_go 55 = .ok (.ireturn, 1) := by decide +kernel
set_option maxRecDepth 20000 in
theorem ggX10_now_X5_railsThatAre : GoodIn wsX10_now wsX5_railsThatAre := goodIn_r _ [13, 14, 29, 30, 31, 32, 33, 34, 35, 36, 37, 38, 39, 40, 41, 42] (by decide +kernel) (by decide +kernel)
set_option maxRecDepth 20000 in
theorem gX10_now_X5_railsThatAre : GoodIn wsX10_now (wsV RX10 163 RX5 yX5_railsThatAre wsX5_railsThatAre) := goodIn_app (goodIn_of _ (by decide +kernel)) ggX10_now_X5_railsThatAre
set_option maxRecDepth 20000 in
theorem ggX10_now_X10_asNumber : GoodIn wsX10_now wsX10_asNumber := goodIn_r _ [18] (by decide +kernel) (by decide +kernel)
set_option maxRecDepth 20000 in
theorem gX10_now_X10_asNumber : GoodIn wsX10_now (va_wsS RX10 128 yX10_asNumber wsX10_asNumber) := goodIn_app (goodIn_of _ (by decide +kernel)) ggX10_now_X10_asNumber
theorem dX10_now_0 : decode cX10_now 0 = .ok (.iload_n 1, 1) := by decide +kernel
theorem dX10_now_1 : decode cX10_now 1 = .ok (.tableswitch 128 0 8 #[51, 59, 68, 77, 85, 93, 101, 109, 120], 51) := by decide +kernel
theorem dX10_now_52 : decode cX10_now 52 = .ok (.aload_n 0, 1) := by decide +kernel
theorem dX10_now_53 : decode cX10_now 53 = .ok (.getfield 19, 3) := by decide +kernel
theorem dX10_now_56 : decode cX10_now 56 = .ok (.getfield 160, 3) := by decide +kernel
theorem dX10_now_59 : decode cX10_now 59 = .ok (.ireturn, 1) := by decide +kernel
theorem dX10_now_60 : decode cX10_now 60 = .ok (.aload_n 0, 1) := by decide +kernel
theorem dX10_now_61 : decode cX10_now 61 = .ok (.getfield 19, 3) := by decide +kernel
theorem dX10_now_64 : decode cX10_now 64 = .ok (.iconst 3, 1) := by decide +kernel
theorem dX10_now_65 : decode cX10_now 65 = .ok (.invokevirtual 163, 3) := by decide +kernel
theorem dX10_now_68 : decode cX10_now 68 = .ok (.ireturn, 1) := by decide +kernel
theorem dX10_now_69 : decode cX10_now 69 = .ok (.aload_n 0, 1) := by decide +kernel
theorem dX10_now_70 : decode cX10_now 70 = .ok (.getfield 19, 3) := by decide +kernel
theorem dX10_now_73 : decode cX10_now 73 = .ok (.iconst 2, 1) := by decide +kernel
theorem dX10_now_74 : decode cX10_now 74 = .ok (.invokevirtual 163, 3) := by decide +kernel
theorem dX10_now_77 : decode cX10_now 77 = .ok (.ireturn, 1) := by decide +kernel
theorem dX10_now_78 : decode cX10_now 78 = .ok (.aload_n 0, 1) := by decide +kernel
theorem dX10_now_79 : decode cX10_now 79 = .ok (.getfield 19, 3) := by decide +kernel
theorem dX10_now_82 : decode cX10_now 82 = .ok (.getfield 166, 3) := by decide +kernel
theorem dX10_now_85 : decode cX10_now 85 = .ok (.ireturn, 1) := by decide +kernel
theorem dX10_now_86 : decode cX10_now 86 = .ok (.aload_n 0, 1) := by decide +kernel
theorem dX10_now_87 : decode cX10_now 87 = .ok (.getfield 19, 3) := by decide +kernel
theorem dX10_now_90 : decode cX10_now 90 = .ok (.getfield 169, 3) := by decide +kernel
theorem dX10_now_93 : decode cX10_now 93 = .ok (.ireturn, 1) := by decide +kernel
theorem dX10_now_94 : decode cX10_now 94 = .ok (.aload_n 0, 1) := by decide +kernel
theorem dX10_now_95 : decode cX10_now 95 = .ok (.getfield 19, 3) := by decide +kernel
theorem dX10_now_98 : decode cX10_now 98 = .ok (.getfield 172, 3) := by decide +kernel
theorem dX10_now_101 : decode cX10_now 101 = .ok (.ireturn, 1) := by decide +kernel
theorem dX10_now_102 : decode cX10_now 102 = .ok (.aload_n 0, 1) := by decide +kernel
theorem dX10_now_103 : decode cX10_now 103 = .ok (.getfield 19, 3) := by decide +kernel
theorem dX10_now_106 : decode cX10_now 106 = .ok (.getfield 175, 3) := by decide +kernel
theorem dX10_now_109 : decode cX10_now 109 = .ok (.ireturn, 1) := by decide +kernel
theorem dX10_now_110 : decode cX10_now 110 = .ok (.aload_n 0, 1) := by decide +kernel
theorem dX10_now_111 : decode cX10_now 111 = .ok (.getfield 19, 3) := by decide +kernel
theorem dX10_now_114 : decode cX10_now 114 = .ok (.getfield 139, 3) := by decide +kernel
theorem dX10_now_117 : decode cX10_now 117 = .ok (.invokestatic 128, 3) := by decide +kernel
theorem dX10_now_120 : decode cX10_now 120 = .ok (.ireturn, 1) := by decide +kernel
theorem dX10_now_121 : decode cX10_now 121 = .ok (.aload_n 0, 1) := by decide +kernel
theorem dX10_now_122 : decode cX10_now 122 = .ok (.getfield 19, 3) := by decide +kernel
theorem dX10_now_125 : decode cX10_now 125 = .ok (.getfield 154, 3) := by decide +kernel
theorem dX10_now_128 : decode cX10_now 128 = .ok (.ireturn, 1) := by decide +kernel
theorem dX10_now_129 : decode cX10_now 129 = .ok (.bipush (-9), 2) := by decide +kernel
theorem dX10_now_131 : decode cX10_now 131 = .ok (.ireturn, 1) := by decide +kernel
set_option maxRecDepth 20000 in
theorem ggX10_is_X3_hasRail : GoodIn wsX10_is wsX3_hasRail := goodIn_r _ [12, 13, 38, 39, 40, 41, 42, 43] (by decide +kernel) (by decide +kernel)
set_option maxRecDepth 20000 in
theorem gX10_is_X3_hasRail : GoodIn wsX10_is (wsV RX10 100 RX3 yX3_hasRail wsX3_hasRail) := goodIn_app (goodIn_of _ (by decide +kernel)) ggX10_is_X3_hasRail
theorem dX10_is_0 : decode cX10_is 0 = .ok (.aload_n 0, 1) := by decide +kernel
theorem dX10_is_1 : decode cX10_is 1 = .ok (.getfield 56, 3) := by decide +kernel
theorem dX10_is_4 : decode cX10_is 4 = .ok (.iload_n 1, 1) := by decide +kernel
theorem dX10_is_5 : decode cX10_is 5 = .ok (.invokevirtual 100, 3) := by decide +kernel
theorem dX10_is_8 : decode cX10_is 8 = .ok (.ifCond .ne 5, 3) := by decide +kernel
theorem dX10_is_11 : decode cX10_is 11 = .ok (.iconst (-1), 1) := by decide +kernel
theorem dX10_is_12 : decode cX10_is 12 = .ok (.ireturn, 1) := by decide +kernel
theorem dX10_is_13 : decode cX10_is 13 = .ok (.iload_n 2, 1) := by decide +kernel
theorem dX10_is_14 : decode cX10_is 14 = .ok (.tableswitch 86 0 4 #[34, 44, 54, 66, 76], 34) := by decide +kernel
theorem dX10_is_48 : decode cX10_is 48 = .ok (.aload_n 0, 1) := by decide +kernel
theorem dX10_is_49 : decode cX10_is 49 = .ok (.getfield 19, 3) := by decide +kernel
theorem dX10_is_52 : decode cX10_is 52 = .ok (.getfield 178, 3) := by decide +kernel
theorem dX10_is_55 : decode cX10_is 55 = .ok (.iload_n 1, 1) := by decide +kernel
theorem dX10_is_56 : decode cX10_is 56 = .ok (.iaload, 1) := by decide +kernel
theorem dX10_is_57 : decode cX10_is 57 = .ok (.ireturn, 1) := by decide +kernel
theorem dX10_is_58 : decode cX10_is 58 = .ok (.aload_n 0, 1) := by decide +kernel
theorem dX10_is_59 : decode cX10_is 59 = .ok (.getfield 19, 3) := by decide +kernel
theorem dX10_is_62 : decode cX10_is 62 = .ok (.getfield 181, 3) := by decide +kernel
theorem dX10_is_65 : decode cX10_is 65 = .ok (.iload_n 1, 1) := by decide +kernel
theorem dX10_is_66 : decode cX10_is 66 = .ok (.iaload, 1) := by decide +kernel
theorem dX10_is_67 : decode cX10_is 67 = .ok (.ireturn, 1) := by decide +kernel
theorem dX10_is_68 : decode cX10_is 68 = .ok (.aload_n 0, 1) := by decide +kernel
theorem dX10_is_69 : decode cX10_is 69 = .ok (.getfield 19, 3) := by decide +kernel
theorem dX10_is_72 : decode cX10_is 72 = .ok (.getfield 147, 3) := by decide +kernel
theorem dX10_is_75 : decode cX10_is 75 = .ok (.iload_n 1, 1) := by decide +kernel
theorem dX10_is_76 : decode cX10_is 76 = .ok (.ishr, 1) := by decide +kernel
theorem dX10_is_77 : decode cX10_is 77 = .ok (.iconst 1, 1) := by decide +kernel
theorem dX10_is_78 : decode cX10_is 78 = .ok (.iand, 1) := by decide +kernel
theorem dX10_is_79 : decode cX10_is 79 = .ok (.ireturn, 1) := by decide +kernel
theorem dX10_is_80 : decode cX10_is 80 = .ok (.aload_n 0, 1) := by decide +kernel
theorem dX10_is_81 : decode cX10_is 81 = .ok (.getfield 19, 3) := by decide +kernel
theorem dX10_is_84 : decode cX10_is 84 = .ok (.getfield 150, 3) := by decide +kernel
theorem dX10_is_87 : decode cX10_is 87 = .ok (.iload_n 1, 1) := by decide +kernel
theorem dX10_is_88 : decode cX10_is 88 = .ok (.iaload, 1) := by decide +kernel
theorem dX10_is_89 : decode cX10_is 89 = .ok (.ireturn, 1) := by decide +kernel
theorem dX10_is_90 : decode cX10_is 90 = .ok (.aload_n 0, 1) := by decide +kernel
theorem dX10_is_91 : decode cX10_is 91 = .ok (.getfield 19, 3) := by decide +kernel
theorem dX10_is_94 : decode cX10_is 94 = .ok (.getfield 184, 3) := by decide +kernel
theorem dX10_is_97 : decode cX10_is 97 = .ok (.iload_n 1, 1) := by decide +kernel
theorem dX10_is_98 : decode cX10_is 98 = .ok (.iaload, 1) := by decide +kernel
theorem dX10_is_99 : decode cX10_is 99 = .ok (.ireturn, 1) := by decide +kernel
theorem dX10_is_100 : decode cX10_is 100 = .ok (.iconst (-1), 1) := by decide +kernel
theorem dX10_is_101 : decode cX10_is 101 = .ok (.ireturn, 1) := by decide +kernel
theorem dX10_happened_0 : decode cX10_happened 0 = .ok (.iload_n 1, 1) := by decide +kernel
theorem dX10_happened_1 : decode cX10_happened 1 = .ok (.ifCond .lt 17, 3) := by decide +kernel
theorem dX10_happened_4 : decode cX10_happened 4 = .ok (.iload_n 1, 1) := by decide +kernel
theorem dX10_happened_5 : decode cX10_happened 5 = .ok (.aload_n 0, 1) := by decide +kernel
theorem dX10_happened_6 : decode cX10_happened 6 = .ok (.getfield 19, 3) := by decide +kernel
theorem dX10_happened_9 : decode cX10_happened 9 = .ok (.getfield 187, 3) := by decide +kernel
theorem dX10_happened_12 : decode cX10_happened 12 = .ok (.getfield 191, 3) := by decide +kernel
theorem dX10_happened_15 : decode cX10_happened 15 = .ok (.if_icmp .lt 5, 3) := by decide +kernel
theorem dX10_happened_18 : decode cX10_happened 18 = .ok (.iconst (-1), 1) := by decide +kernel
theorem dX10_happened_19 : decode cX10_happened 19 = .ok (.ireturn, 1) := by decide +kernel
theorem dX10_happened_20 : decode cX10_happened 20 = .ok (.iload_n 2, 1) := by decide +kernel
theorem dX10_happened_21 : decode cX10_happened 21 = .ok (.tableswitch 66 0 2 #[27, 40, 53], 27) := by decide +kernel
theorem dX10_happened_48 : decode cX10_happened 48 = .ok (.aload_n 0, 1) := by decide +kernel
theorem dX10_happened_49 : decode cX10_happened 49 = .ok (.getfield 19, 3) := by decide +kernel
theorem dX10_happened_52 : decode cX10_happened 52 = .ok (.getfield 187, 3) := by decide +kernel
theorem dX10_happened_55 : decode cX10_happened 55 = .ok (.getfield 196, 3) := by decide +kernel
theorem dX10_happened_58 : decode cX10_happened 58 = .ok (.iload_n 1, 1) := by decide +kernel
theorem dX10_happened_59 : decode cX10_happened 59 = .ok (.iaload, 1) := by decide +kernel
theorem dX10_happened_60 : decode cX10_happened 60 = .ok (.ireturn, 1) := by decide +kernel
theorem dX10_happened_61 : decode cX10_happened 61 = .ok (.aload_n 0, 1) := by decide +kernel
theorem dX10_happened_62 : decode cX10_happened 62 = .ok (.getfield 19, 3) := by decide +kernel
theorem dX10_happened_65 : decode cX10_happened 65 = .ok (.getfield 187, 3) := by decide +kernel
theorem dX10_happened_68 : decode cX10_happened 68 = .ok (.getfield 199, 3) := by decide +kernel
theorem dX10_happened_71 : decode cX10_happened 71 = .ok (.iload_n 1, 1) := by decide +kernel
theorem dX10_happened_72 : decode cX10_happened 72 = .ok (.iaload, 1) := by decide +kernel
theorem dX10_happened_73 : decode cX10_happened 73 = .ok (.ireturn, 1) := by decide +kernel
theorem dX10_happened_74 : decode cX10_happened 74 = .ok (.aload_n 0, 1) := by decide +kernel
theorem dX10_happened_75 : decode cX10_happened 75 = .ok (.getfield 19, 3) := by decide +kernel
theorem dX10_happened_78 : decode cX10_happened 78 = .ok (.getfield 187, 3) := by decide +kernel
theorem dX10_happened_81 : decode cX10_happened 81 = .ok (.getfield 202, 3) := by decide +kernel
theorem dX10_happened_84 : decode cX10_happened 84 = .ok (.iload_n 1, 1) := by decide +kernel
theorem dX10_happened_85 : decode cX10_happened 85 = .ok (.iaload, 1) := by decide +kernel
theorem dX10_happened_86 : decode cX10_happened 86 = .ok (.ireturn, 1) := by decide +kernel
theorem dX10_happened_87 : decode cX10_happened 87 = .ok (.iconst (-1), 1) := by decide +kernel
theorem dX10_happened_88 : decode cX10_happened 88 = .ok (.ireturn, 1) := by decide +kernel
set_option maxRecDepth 20000 in
theorem ggX10_up_X3_allRails : GoodIn wsX10_up wsX3_allRails := goodIn_r _ [8, 9, 43, 44, 45, 46, 47, 48] (by decide +kernel) (by decide +kernel)
set_option maxRecDepth 20000 in
theorem gX10_up_X3_allRails : GoodIn wsX10_up (wsV RX10 120 RX3 yX3_allRails wsX3_allRails) := goodIn_app (goodIn_of _ (by decide +kernel)) ggX10_up_X3_allRails
set_option maxRecDepth 20000 in
theorem ggX10_up_X3_upAmong : GoodIn wsX10_up wsX3_upAmong := goodIn_r _ [13, 9, 14, 15, 16, 7, 17, 18, 43, 44, 45, 46, 47, 48] (by decide +kernel) (by decide +kernel)
set_option maxRecDepth 20000 in
theorem gX10_up_X3_upAmong : GoodIn wsX10_up (wsV RX10 205 RX3 yX3_upAmong wsX3_upAmong) := goodIn_app (goodIn_of _ (by decide +kernel)) ggX10_up_X3_upAmong
theorem dX10_up_0 : decode cX10_up 0 = .ok (.aload_n 0, 1) := by decide +kernel
theorem dX10_up_1 : decode cX10_up 1 = .ok (.getfield 56, 3) := by decide +kernel
theorem dX10_up_4 : decode cX10_up 4 = .ok (.invokevirtual 120, 3) := by decide +kernel
theorem dX10_up_7 : decode cX10_up 7 = .ok (.istore_n 2, 1) := by decide +kernel
theorem dX10_up_8 : decode cX10_up 8 = .ok (.iload_n 2, 1) := by decide +kernel
theorem dX10_up_9 : decode cX10_up 9 = .ok (.aload_n 0, 1) := by decide +kernel
theorem dX10_up_10 : decode cX10_up 10 = .ok (.getfield 19, 3) := by decide +kernel
theorem dX10_up_13 : decode cX10_up 13 = .ok (.getfield 147, 3) := by decide +kernel
theorem dX10_up_16 : decode cX10_up 16 = .ok (.iconst (-1), 1) := by decide +kernel
theorem dX10_up_17 : decode cX10_up 17 = .ok (.ixor, 1) := by decide +kernel
theorem dX10_up_18 : decode cX10_up 18 = .ok (.iand, 1) := by decide +kernel
theorem dX10_up_19 : decode cX10_up 19 = .ok (.istore_n 3, 1) := by decide +kernel
theorem dX10_up_20 : decode cX10_up 20 = .ok (.iload_n 1, 1) := by decide +kernel
theorem dX10_up_21 : decode cX10_up 21 = .ok (.tableswitch 62 0 2 #[27, 36, 49], 27) := by decide +kernel
theorem dX10_up_48 : decode cX10_up 48 = .ok (.aload_n 0, 1) := by decide +kernel
theorem dX10_up_49 : decode cX10_up 49 = .ok (.getfield 56, 3) := by decide +kernel
theorem dX10_up_52 : decode cX10_up 52 = .ok (.iload_n 3, 1) := by decide +kernel
theorem dX10_up_53 : decode cX10_up 53 = .ok (.invokevirtual 205, 3) := by decide +kernel
theorem dX10_up_56 : decode cX10_up 56 = .ok (.ireturn, 1) := by decide +kernel
theorem dX10_up_57 : decode cX10_up 57 = .ok (.iload_n 3, 1) := by decide +kernel
theorem dX10_up_58 : decode cX10_up 58 = .ok (.aload_n 0, 1) := by decide +kernel
theorem dX10_up_59 : decode cX10_up 59 = .ok (.getfield 56, 3) := by decide +kernel
theorem dX10_up_62 : decode cX10_up 62 = .ok (.iload_n 3, 1) := by decide +kernel
theorem dX10_up_63 : decode cX10_up 63 = .ok (.invokevirtual 205, 3) := by decide +kernel
theorem dX10_up_66 : decode cX10_up 66 = .ok (.iconst (-1), 1) := by decide +kernel
theorem dX10_up_67 : decode cX10_up 67 = .ok (.ixor, 1) := by decide +kernel
theorem dX10_up_68 : decode cX10_up 68 = .ok (.iand, 1) := by decide +kernel
theorem dX10_up_69 : decode cX10_up 69 = .ok (.ireturn, 1) := by decide +kernel
theorem dX10_up_70 : decode cX10_up 70 = .ok (.iload_n 2, 1) := by decide +kernel
theorem dX10_up_71 : decode cX10_up 71 = .ok (.aload_n 0, 1) := by decide +kernel
theorem dX10_up_72 : decode cX10_up 72 = .ok (.getfield 56, 3) := by decide +kernel
theorem dX10_up_75 : decode cX10_up 75 = .ok (.iload_n 2, 1) := by decide +kernel
theorem dX10_up_76 : decode cX10_up 76 = .ok (.invokevirtual 205, 3) := by decide +kernel
theorem dX10_up_79 : decode cX10_up 79 = .ok (.iconst (-1), 1) := by decide +kernel
theorem dX10_up_80 : decode cX10_up 80 = .ok (.ixor, 1) := by decide +kernel
theorem dX10_up_81 : decode cX10_up 81 = .ok (.iand, 1) := by decide +kernel
theorem dX10_up_82 : decode cX10_up 82 = .ok (.ireturn, 1) := by decide +kernel
theorem dX10_up_83 : decode cX10_up 83 = .ok (.iconst (-1), 1) := by decide +kernel
theorem dX10_up_84 : decode cX10_up 84 = .ok (.ireturn, 1) := by decide +kernel
set_option maxRecDepth 20000 in
theorem ggX10_when_X3_hasRail : GoodIn wsX10_when wsX3_hasRail := goodIn_r _ [8, 9, 99, 100, 101, 102, 103, 104] (by decide +kernel) (by decide +kernel)
set_option maxRecDepth 20000 in
theorem gX10_when_X3_hasRail : GoodIn wsX10_when (wsV RX10 100 RX3 yX3_hasRail wsX3_hasRail) := goodIn_app (goodIn_of _ (by decide +kernel)) ggX10_when_X3_hasRail
set_option maxRecDepth 20000 in
theorem ggX10_when_X10_followTimes : GoodIn wsX10_when wsX10_followTimes := goodIn_r _ [14, 2, 1, 15, 16, 17, 18, 19, 20, 21, 22, 23, 24, 25, 26, 7, 27, 28, 29, 30, 31, 32, 33, 34, 35, 36, 37, 38, 39, 40, 13, 41, 42, 43, 44, 45, 46, 9, 47, 48, 49, 50, 51, 52, 53, 54, 55, 56, 57, 58, 59, 60, 61, 62, 63, 64, 65, 66, 67, 68, 69, 70, 71, 80, 81, 82, 83, 84, 85, 86, 87, 88, 89, 105, 106, 107, 108, 109, 110, 111, 112, 113, 114, 115, 116, 117, 118, 99, 100, 101, 102, 103, 104, 90, 91, 92, 93, 94, 95, 96, 97, 98] (by decide +kernel) (by decide +kernel)
set_option maxRecDepth 20000 in
theorem gX10_when_X10_followTimes : GoodIn wsX10_when (wsV RX10 208 RX10 yX10_followTimes wsX10_followTimes) := goodIn_app (goodIn_of _ (by decide +kernel)) ggX10_when_X10_followTimes
set_option maxRecDepth 20000 in
theorem ggX10_when_X0_setWaits : GoodIn wsX10_when wsX0_setWaits := goodIn_r _ [21, 22, 23, 24, 25, 26, 7, 27, 28, 99, 100, 101, 102, 103, 104, 90, 91, 92, 93, 94, 95, 96, 97, 98] (by decide +kernel) (by decide +kernel)
set_option maxRecDepth 20000 in
theorem gX10_when_X0_setWaits : GoodIn wsX10_when (wsV RX10 211 RX0 yX0_setWaits wsX0_setWaits) := goodIn_app (goodIn_of _ (by decide +kernel)) ggX10_when_X0_setWaits
set_option maxRecDepth 20000 in
theorem ggX10_when_X0_setTakes : GoodIn wsX10_when wsX0_setTakes := goodIn_r _ [75, 22, 33, 24, 25, 26, 7, 27, 28, 99, 100, 101, 102, 103, 104, 90, 91, 92, 93, 94, 95, 96, 97, 98] (by decide +kernel) (by decide +kernel)
set_option maxRecDepth 20000 in
theorem gX10_when_X0_setTakes : GoodIn wsX10_when (wsV RX10 214 RX0 yX0_setTakes wsX0_setTakes) := goodIn_app (goodIn_of _ (by decide +kernel)) ggX10_when_X0_setTakes
set_option maxRecDepth 20000 in
theorem ggX10_when_X10_alive : GoodIn wsX10_when wsX10_alive := goodIn_r _ [41, 1, 15, 42, 43, 44, 45, 7, 46, 9, 80, 81, 82, 83, 84, 85, 86, 87, 88, 89, 105, 106, 107, 108, 109, 110, 111, 112, 113, 114, 115, 116, 117, 118, 99, 100, 101, 102, 103, 104] (by decide +kernel) (by decide +kernel)
set_option maxRecDepth 20000 in
theorem gX10_when_X10_alive : GoodIn wsX10_when (wsV RX10 218 RX10 yX10_alive wsX10_alive) := goodIn_app (goodIn_of _ (by decide +kernel)) ggX10_when_X10_alive
set_option maxRecDepth 20000 in
theorem ggX10_when_X0_follow : GoodIn wsX10_when wsX0_follow := goodIn_r _ [50, 51, 52, 53, 54, 55, 56, 20, 57, 22, 58, 23, 33, 59, 60, 61, 7, 62, 63, 64, 65, 66, 67, 68, 69, 70, 71, 90, 91, 92, 93, 94, 95, 96, 97, 98, 99, 100, 101, 102, 103, 104] (by decide +kernel) (by decide +kernel)
set_option maxRecDepth 20000 in
theorem gX10_when_X0_follow : GoodIn wsX10_when (wsV RX10 221 RX0 yX0_follow wsX0_follow) := goodIn_app (goodIn_of _ (by decide +kernel)) ggX10_when_X0_follow
set_option maxRecDepth 20000 in
theorem ggX10_when_X0_isUp : GoodIn wsX10_when wsX0_isUp := goodIn_r _ [79, 51, 90, 91, 92, 93, 94, 95, 96, 97, 98] (by decide +kernel) (by decide +kernel)
set_option maxRecDepth 20000 in
theorem gX10_when_X0_isUp : GoodIn wsX10_when (wsV RX10 224 RX0 yX0_isUp wsX0_isUp) := goodIn_app (goodIn_of _ (by decide +kernel)) ggX10_when_X0_isUp
theorem dX10_when_0 : decode cX10_when 0 = .ok (.aload_n 0, 1) := by decide +kernel
theorem dX10_when_1 : decode cX10_when 1 = .ok (.getfield 56, 3) := by decide +kernel
theorem dX10_when_4 : decode cX10_when 4 = .ok (.iload_n 1, 1) := by decide +kernel
theorem dX10_when_5 : decode cX10_when 5 = .ok (.invokevirtual 100, 3) := by decide +kernel
theorem dX10_when_8 : decode cX10_when 8 = .ok (.ifCond .eq 12, 3) := by decide +kernel
theorem dX10_when_11 : decode cX10_when 11 = .ok (.iload_n 2, 1) := by decide +kernel
theorem dX10_when_12 : decode cX10_when 12 = .ok (.ifCond .lt 8, 3) := by decide +kernel
theorem dX10_when_15 : decode cX10_when 15 = .ok (.iload_n 2, 1) := by decide +kernel
theorem dX10_when_16 : decode cX10_when 16 = .ok (.iconst 2, 1) := by decide +kernel
theorem dX10_when_17 : decode cX10_when 17 = .ok (.if_icmp .le 5, 3) := by decide +kernel
theorem dX10_when_20 : decode cX10_when 20 = .ok (.iconst (-1), 1) := by decide +kernel
theorem dX10_when_21 : decode cX10_when 21 = .ok (.ireturn, 1) := by decide +kernel
theorem dX10_when_22 : decode cX10_when 22 = .ok (.iload_n 2, 1) := by decide +kernel
theorem dX10_when_23 : decode cX10_when 23 = .ok (.ifCond .ne 10, 3) := by decide +kernel
theorem dX10_when_26 : decode cX10_when 26 = .ok (.aload_n 0, 1) := by decide +kernel
theorem dX10_when_27 : decode cX10_when 27 = .ok (.invokevirtual 208, 3) := by decide +kernel
theorem dX10_when_30 : decode cX10_when 30 = .ok (.goto 50, 3) := by decide +kernel
theorem dX10_when_33 : decode cX10_when 33 = .ok (.aload_n 0, 1) := by decide +kernel
theorem dX10_when_34 : decode cX10_when 34 = .ok (.getfield 26, 3) := by decide +kernel
theorem dX10_when_37 : decode cX10_when 37 = .ok (.aload_n 0, 1) := by decide +kernel
theorem dX10_when_38 : decode cX10_when 38 = .ok (.getfield 56, 3) := by decide +kernel
theorem dX10_when_41 : decode cX10_when 41 = .ok (.invokevirtual 211, 3) := by decide +kernel
theorem dX10_when_44 : decode cX10_when 44 = .ok (.aload_n 0, 1) := by decide +kernel
theorem dX10_when_45 : decode cX10_when 45 = .ok (.getfield 26, 3) := by decide +kernel
theorem dX10_when_48 : decode cX10_when 48 = .ok (.aload_n 0, 1) := by decide +kernel
theorem dX10_when_49 : decode cX10_when 49 = .ok (.getfield 56, 3) := by decide +kernel
theorem dX10_when_52 : decode cX10_when 52 = .ok (.iload_n 2, 1) := by decide +kernel
theorem dX10_when_53 : decode cX10_when 53 = .ok (.iconst 1, 1) := by decide +kernel
theorem dX10_when_54 : decode cX10_when 54 = .ok (.if_icmp .ne 7, 3) := by decide +kernel
theorem dX10_when_57 : decode cX10_when 57 = .ok (.iconst 0, 1) := by decide +kernel
theorem dX10_when_58 : decode cX10_when 58 = .ok (.goto 4, 3) := by decide +kernel
theorem dX10_when_61 : decode cX10_when 61 = .ok (.iconst 1, 1) := by decide +kernel
theorem dX10_when_62 : decode cX10_when 62 = .ok (.invokevirtual 214, 3) := by decide +kernel
theorem dX10_when_65 : decode cX10_when 65 = .ok (.aload_n 0, 1) := by decide +kernel
theorem dX10_when_66 : decode cX10_when 66 = .ok (.getfield 26, 3) := by decide +kernel
theorem dX10_when_69 : decode cX10_when 69 = .ok (.aload_n 0, 1) := by decide +kernel
theorem dX10_when_70 : decode cX10_when 70 = .ok (.getfield 56, 3) := by decide +kernel
theorem dX10_when_73 : decode cX10_when 73 = .ok (.aload_n 0, 1) := by decide +kernel
theorem dX10_when_74 : decode cX10_when 74 = .ok (.invokevirtual 218, 3) := by decide +kernel
theorem dX10_when_77 : decode cX10_when 77 = .ok (.invokevirtual 221, 3) := by decide +kernel
theorem dX10_when_80 : decode cX10_when 80 = .ok (.aload_n 0, 1) := by decide +kernel
theorem dX10_when_81 : decode cX10_when 81 = .ok (.getfield 26, 3) := by decide +kernel
theorem dX10_when_84 : decode cX10_when 84 = .ok (.iload_n 1, 1) := by decide +kernel
theorem dX10_when_85 : decode cX10_when 85 = .ok (.invokevirtual 224, 3) := by decide +kernel
theorem dX10_when_88 : decode cX10_when 88 = .ok (.ifCond .eq 15, 3) := by decide +kernel
theorem dX10_when_91 : decode cX10_when 91 = .ok (.aload_n 0, 1) := by decide +kernel
theorem dX10_when_92 : decode cX10_when 92 = .ok (.getfield 26, 3) := by decide +kernel
theorem dX10_when_95 : decode cX10_when 95 = .ok (.getfield 227, 3) := by decide +kernel
theorem dX10_when_98 : decode cX10_when 98 = .ok (.iload_n 1, 1) := by decide +kernel
theorem dX10_when_99 : decode cX10_when 99 = .ok (.iaload, 1) := by decide +kernel
theorem dX10_when_100 : decode cX10_when 100 = .ok (.goto 5, 3) := by decide +kernel
theorem dX10_when_103 : decode cX10_when 103 = .ok (.bipush (-4), 2) := by decide +kernel
theorem dX10_when_105 : decode cX10_when 105 = .ok (.ireturn, 1) := by decide +kernel
set_option maxRecDepth 20000 in
theorem ggX10_ahead_X3_hasRail : GoodIn wsX10_ahead wsX3_hasRail := goodIn_r _ [7, 8, 111, 112, 113, 114, 115, 116] (by decide +kernel) (by decide +kernel)
set_option maxRecDepth 20000 in
theorem gX10_ahead_X3_hasRail : GoodIn wsX10_ahead (wsV RX10 100 RX3 yX3_hasRail wsX3_hasRail) := goodIn_app (goodIn_of _ (by decide +kernel)) ggX10_ahead_X3_hasRail
set_option maxRecDepth 20000 in
theorem ggX10_ahead_X3_countWays : GoodIn wsX10_ahead wsX3_countWays := goodIn_r _ [12, 8, 13, 14, 15, 6, 16, 17, 111, 112, 113, 114, 115, 116] (by decide +kernel) (by decide +kernel)
set_option maxRecDepth 20000 in
theorem gX10_ahead_X3_countWays : GoodIn wsX10_ahead (wsV RX10 230 RX3 yX3_countWays wsX3_countWays) := goodIn_app (goodIn_of _ (by decide +kernel)) ggX10_ahead_X3_countWays
set_option maxRecDepth 20000 in
theorem ggX10_ahead_X10_alive : GoodIn wsX10_ahead wsX10_alive := goodIn_r _ [22, 1, 23, 24, 25, 26, 27, 6, 28, 8, 101, 102, 103, 104, 105, 106, 107, 108, 109, 110, 117, 118, 119, 120, 121, 122, 123, 124, 125, 126, 127, 128, 129, 130, 111, 112, 113, 114, 115, 116] (by decide +kernel) (by decide +kernel)
set_option maxRecDepth 20000 in
theorem gX10_ahead_X10_alive : GoodIn wsX10_ahead (wsV RX10 218 RX10 yX10_alive wsX10_alive) := goodIn_app (goodIn_of _ (by decide +kernel)) ggX10_ahead_X10_alive
set_option maxRecDepth 20000 in
theorem ggX10_ahead_X3_upAmong : GoodIn wsX10_ahead wsX3_upAmong := goodIn_r _ [32, 8, 33, 34, 35, 6, 36, 37, 111, 112, 113, 114, 115, 116] (by decide +kernel) (by decide +kernel)
set_option maxRecDepth 20000 in
theorem gX10_ahead_X3_upAmong : GoodIn wsX10_ahead (wsV RX10 205 RX3 yX3_upAmong wsX3_upAmong) := goodIn_app (goodIn_of _ (by decide +kernel)) ggX10_ahead_X3_upAmong
set_option maxRecDepth 20000 in
theorem ggX10_ahead_X9_mostBehind : GoodIn wsX10_ahead wsX9_mostBehind := goodIn_r _ [42, 43, 44, 45, 46, 47, 48, 49, 50, 51, 52, 53, 6, 54, 8, 13, 14, 15, 16, 17, 55, 26, 27, 28, 56, 30, 31, 32, 33, 34, 35, 36, 37, 57, 58, 59, 41, 60, 61, 62, 63, 64, 65, 66, 67, 68, 69, 70, 71, 72, 73, 74, 75, 76, 77, 78, 79, 80, 81, 82, 83, 84, 85, 86, 87, 88, 89, 90, 91, 92, 93, 94, 95, 96, 97, 98, 99, 100, 131, 132, 133, 134, 135, 136, 137, 138, 139, 140, 141, 142, 143, 144, 145, 111, 112, 113, 114, 115, 116] (by decide +kernel) (by decide +kernel)
set_option maxRecDepth 20000 in
theorem gX10_ahead_X9_mostBehind : GoodIn wsX10_ahead (wsV RX10 233 RX9 yX9_mostBehind wsX9_mostBehind) := goodIn_app (goodIn_of _ (by decide +kernel)) ggX10_ahead_X9_mostBehind
theorem dX10_ahead_0 : decode cX10_ahead 0 = .ok (.aload_n 0, 1) := by decide +kernel
theorem dX10_ahead_1 : decode cX10_ahead 1 = .ok (.getfield 56, 3) := by decide +kernel
theorem dX10_ahead_4 : decode cX10_ahead 4 = .ok (.iload_n 1, 1) := by decide +kernel
theorem dX10_ahead_5 : decode cX10_ahead 5 = .ok (.invokevirtual 100, 3) := by decide +kernel
theorem dX10_ahead_8 : decode cX10_ahead 8 = .ok (.ifCond .eq 28, 3) := by decide +kernel
theorem dX10_ahead_11 : decode cX10_ahead 11 = .ok (.aload_n 0, 1) := by decide +kernel
theorem dX10_ahead_12 : decode cX10_ahead 12 = .ok (.getfield 56, 3) := by decide +kernel
theorem dX10_ahead_15 : decode cX10_ahead 15 = .ok (.iload_n 2, 1) := by decide +kernel
theorem dX10_ahead_16 : decode cX10_ahead 16 = .ok (.invokevirtual 100, 3) := by decide +kernel
theorem dX10_ahead_19 : decode cX10_ahead 19 = .ok (.ifCond .eq 17, 3) := by decide +kernel
theorem dX10_ahead_22 : decode cX10_ahead 22 = .ok (.iload_n 1, 1) := by decide +kernel
theorem dX10_ahead_23 : decode cX10_ahead 23 = .ok (.iload_n 2, 1) := by decide +kernel
theorem dX10_ahead_24 : decode cX10_ahead 24 = .ok (.if_icmp .eq 12, 3) := by decide +kernel
theorem dX10_ahead_27 : decode cX10_ahead 27 = .ok (.iload_n 3, 1) := by decide +kernel
theorem dX10_ahead_28 : decode cX10_ahead 28 = .ok (.ifCond .lt 8, 3) := by decide +kernel
theorem dX10_ahead_31 : decode cX10_ahead 31 = .ok (.iload_n 3, 1) := by decide +kernel
theorem dX10_ahead_32 : decode cX10_ahead 32 = .ok (.iconst 1, 1) := by decide +kernel
theorem dX10_ahead_33 : decode cX10_ahead 33 = .ok (.if_icmp .le 7, 3) := by decide +kernel
theorem dX10_ahead_36 : decode cX10_ahead 36 = .ok (.sipush (-1000), 3) := by decide +kernel
theorem dX10_ahead_39 : decode cX10_ahead 39 = .ok (.ireturn, 1) := by decide +kernel
theorem dX10_ahead_40 : decode cX10_ahead 40 = .ok (.aload_n 0, 1) := by decide +kernel
theorem dX10_ahead_41 : decode cX10_ahead 41 = .ok (.getfield 56, 3) := by decide +kernel
theorem dX10_ahead_44 : decode cX10_ahead 44 = .ok (.invokevirtual 230, 3) := by decide +kernel
theorem dX10_ahead_47 : decode cX10_ahead 47 = .ok (.sipush 20000, 3) := by decide +kernel
theorem dX10_ahead_50 : decode cX10_ahead 50 = .ok (.if_icmp .le 7, 3) := by decide +kernel
theorem dX10_ahead_53 : decode cX10_ahead 53 = .ok (.sipush (-1002), 3) := by decide +kernel
theorem dX10_ahead_56 : decode cX10_ahead 56 = .ok (.ireturn, 1) := by decide +kernel
theorem dX10_ahead_57 : decode cX10_ahead 57 = .ok (.iconst 1, 1) := by decide +kernel
theorem dX10_ahead_58 : decode cX10_ahead 58 = .ok (.iload_n 1, 1) := by decide +kernel
theorem dX10_ahead_59 : decode cX10_ahead 59 = .ok (.ishl, 1) := by decide +kernel
theorem dX10_ahead_60 : decode cX10_ahead 60 = .ok (.iconst 1, 1) := by decide +kernel
theorem dX10_ahead_61 : decode cX10_ahead 61 = .ok (.iload_n 2, 1) := by decide +kernel
theorem dX10_ahead_62 : decode cX10_ahead 62 = .ok (.ishl, 1) := by decide +kernel
theorem dX10_ahead_63 : decode cX10_ahead 63 = .ok (.ior, 1) := by decide +kernel
theorem dX10_ahead_64 : decode cX10_ahead 64 = .ok (.istore 4, 2) := by decide +kernel
theorem dX10_ahead_66 : decode cX10_ahead 66 = .ok (.aload_n 0, 1) := by decide +kernel
theorem dX10_ahead_67 : decode cX10_ahead 67 = .ok (.getfield 56, 3) := by decide +kernel
theorem dX10_ahead_70 : decode cX10_ahead 70 = .ok (.aload_n 0, 1) := by decide +kernel
theorem dX10_ahead_71 : decode cX10_ahead 71 = .ok (.invokevirtual 218, 3) := by decide +kernel
theorem dX10_ahead_74 : decode cX10_ahead 74 = .ok (.invokevirtual 205, 3) := by decide +kernel
theorem dX10_ahead_77 : decode cX10_ahead 77 = .ok (.iload 4, 2) := by decide +kernel
theorem dX10_ahead_79 : decode cX10_ahead 79 = .ok (.iand, 1) := by decide +kernel
theorem dX10_ahead_80 : decode cX10_ahead 80 = .ok (.iload 4, 2) := by decide +kernel
theorem dX10_ahead_82 : decode cX10_ahead 82 = .ok (.if_icmp .eq 7, 3) := by decide +kernel
theorem dX10_ahead_85 : decode cX10_ahead 85 = .ok (.sipush (-1004), 3) := by decide +kernel
theorem dX10_ahead_88 : decode cX10_ahead 88 = .ok (.ireturn, 1) := by decide +kernel
theorem dX10_ahead_89 : decode cX10_ahead 89 = .ok (.aload_n 0, 1) := by decide +kernel
theorem dX10_ahead_90 : decode cX10_ahead 90 = .ok (.getfield 35, 3) := by decide +kernel
theorem dX10_ahead_93 : decode cX10_ahead 93 = .ok (.aload_n 0, 1) := by decide +kernel
theorem dX10_ahead_94 : decode cX10_ahead 94 = .ok (.getfield 56, 3) := by decide +kernel
theorem dX10_ahead_97 : decode cX10_ahead 97 = .ok (.aload_n 0, 1) := by decide +kernel
theorem dX10_ahead_98 : decode cX10_ahead 98 = .ok (.invokevirtual 218, 3) := by decide +kernel
theorem dX10_ahead_101 : decode cX10_ahead 101 = .ok (.iload_n 1, 1) := by decide +kernel
theorem dX10_ahead_102 : decode cX10_ahead 102 = .ok (.iload_n 2, 1) := by decide +kernel
theorem dX10_ahead_103 : decode cX10_ahead 103 = .ok (.invokevirtual 233, 3) := by decide +kernel
theorem dX10_ahead_106 : decode cX10_ahead 106 = .ok (.istore 5, 2) := by decide +kernel
theorem dX10_ahead_108 : decode cX10_ahead 108 = .ok (.iload_n 3, 1) := by decide +kernel
theorem dX10_ahead_109 : decode cX10_ahead 109 = .ok (.iconst 1, 1) := by decide +kernel
theorem dX10_ahead_110 : decode cX10_ahead 110 = .ok (.if_icmp .ne 6, 3) := by decide +kernel
theorem dX10_ahead_113 : decode cX10_ahead 113 = .ok (.iload 5, 2) := by decide +kernel
theorem dX10_ahead_115 : decode cX10_ahead 115 = .ok (.ireturn, 1) := by decide +kernel
theorem dX10_ahead_116 : decode cX10_ahead 116 = .ok (.iload 5, 2) := by decide +kernel
theorem dX10_ahead_118 : decode cX10_ahead 118 = .ok (.ifCond .ge 7, 3) := by decide +kernel
theorem dX10_ahead_121 : decode cX10_ahead 121 = .ok (.iconst 2, 1) := by decide +kernel
theorem dX10_ahead_122 : decode cX10_ahead 122 = .ok (.goto 13, 3) := by decide +kernel
theorem dX10_ahead_125 : decode cX10_ahead 125 = .ok (.iload 5, 2) := by decide +kernel
theorem dX10_ahead_127 : decode cX10_ahead 127 = .ok (.ifCond .ne 7, 3) := by decide +kernel
theorem dX10_ahead_130 : decode cX10_ahead 130 = .ok (.iconst 1, 1) := by decide +kernel
theorem dX10_ahead_131 : decode cX10_ahead 131 = .ok (.goto 4, 3) := by decide +kernel
theorem dX10_ahead_134 : decode cX10_ahead 134 = .ok (.iconst 0, 1) := by decide +kernel
theorem dX10_ahead_135 : decode cX10_ahead 135 = .ok (.ireturn, 1) := by decide +kernel
set_option maxRecDepth 20000 in
theorem ggX10_drawn_X10_followTimes : GoodIn wsX10_drawn wsX10_followTimes := goodIn_r _ [7, 1, 2, 8, 9, 10, 11, 12, 13, 14, 15, 16, 17, 18, 19, 20, 21, 22, 23, 24, 25, 26, 27, 28, 29, 30, 31, 32, 33, 34, 6, 35, 36, 37, 38, 39, 40, 41, 42, 43, 44, 45, 46, 47, 48, 49, 50, 51, 52, 53, 54, 55, 56, 57, 58, 59, 60, 61, 62, 63, 64, 65, 66, 75, 76, 77, 78, 79, 80, 81, 82, 83, 84, 85, 86, 87, 88, 89, 90, 91, 92, 93, 94, 95, 96, 97, 98, 99, 100, 101, 102, 103, 104, 105, 106, 107, 108, 109, 110, 111, 112, 113] (by decide +kernel) (by decide +kernel)
set_option maxRecDepth 20000 in
theorem gX10_drawn_X10_followTimes : GoodIn wsX10_drawn (wsV RX10 208 RX10 yX10_followTimes wsX10_followTimes) := goodIn_app (goodIn_of _ (by decide +kernel)) ggX10_drawn_X10_followTimes
set_option maxRecDepth 20000 in
theorem ggX10_drawn_X0_drawnAt : GoodIn wsX10_drawn wsX0_drawnAt := goodIn_r _ [70, 15, 48, 53, 71, 72, 73, 13, 74, 46, 17, 18, 19, 20, 21, 22, 99, 100, 101, 102, 103, 104, 105, 106, 107, 108, 109, 110, 111, 112, 113] (by decide +kernel) (by decide +kernel)
set_option maxRecDepth 20000 in
theorem gX10_drawn_X0_drawnAt : GoodIn wsX10_drawn (wsV RX10 237 RX0 yX0_drawnAt wsX0_drawnAt) := goodIn_app (goodIn_of _ (by decide +kernel)) ggX10_drawn_X0_drawnAt
theorem dX10_drawn_0 : decode cX10_drawn 0 = .ok (.iload_n 1, 1) := by decide +kernel
theorem dX10_drawn_1 : decode cX10_drawn 1 = .ok (.ifCond .lt 10, 3) := by decide +kernel
theorem dX10_drawn_4 : decode cX10_drawn 4 = .ok (.iload_n 1, 1) := by decide +kernel
theorem dX10_drawn_5 : decode cX10_drawn 5 = .ok (.sipush 999, 3) := by decide +kernel
theorem dX10_drawn_8 : decode cX10_drawn 8 = .ok (.if_icmp .le 5, 3) := by decide +kernel
theorem dX10_drawn_11 : decode cX10_drawn 11 = .ok (.iconst (-1), 1) := by decide +kernel
theorem dX10_drawn_12 : decode cX10_drawn 12 = .ok (.ireturn, 1) := by decide +kernel
theorem dX10_drawn_13 : decode cX10_drawn 13 = .ok (.aload_n 0, 1) := by decide +kernel
theorem dX10_drawn_14 : decode cX10_drawn 14 = .ok (.invokevirtual 208, 3) := by decide +kernel
theorem dX10_drawn_17 : decode cX10_drawn 17 = .ok (.aload_n 0, 1) := by decide +kernel
theorem dX10_drawn_18 : decode cX10_drawn 18 = .ok (.getfield 26, 3) := by decide +kernel
theorem dX10_drawn_21 : decode cX10_drawn 21 = .ok (.aload_n 0, 1) := by decide +kernel
theorem dX10_drawn_22 : decode cX10_drawn 22 = .ok (.getfield 56, 3) := by decide +kernel
