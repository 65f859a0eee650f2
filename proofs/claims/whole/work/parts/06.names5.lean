theorem dX2_init_68 : decode cX2_init 68 = .ok (.getfield 9, 3) := by decide +kernel
theorem dX2_init_71 : decode cX2_init 71 = .ok (.iconst 3, 1) := by decide +kernel
theorem dX2_init_72 : decode cX2_init 72 = .ok (.bipush 100, 2) := by decide +kernel
theorem dX2_init_74 : decode cX2_init 74 = .ok (.iastore, 1) := by decide +kernel
theorem dX2_init_75 : decode cX2_init 75 = .ok (.aload_n 0, 1) := by decide +kernel
theorem dX2_init_76 : decode cX2_init 76 = .ok (.getfield 9, 3) := by decide +kernel
theorem dX2_init_79 : decode cX2_init 79 = .ok (.iconst 4, 1) := by decide +kernel
theorem dX2_init_80 : decode cX2_init 80 = .ok (.iconst 5, 1) := by decide +kernel
theorem dX2_init_81 : decode cX2_init 81 = .ok (.iastore, 1) := by decide +kernel
theorem dX2_init_82 : decode cX2_init 82 = .ok (.return_, 1) := by decide +kernel
theorem dX2_isIn_0 : decode cX2_isIn 0 = .ok (.iload_n 0, 1) := by decide +kernel
theorem dX2_isIn_1 : decode cX2_isIn 1 = .ok (.iload_n 1, 1) := by decide +kernel
theorem dX2_isIn_2 : decode cX2_isIn 2 = .ok (.if_icmp .lt 12, 3) := by decide +kernel
theorem dX2_isIn_5 : decode cX2_isIn 5 = .ok (.iload_n 0, 1) := by decide +kernel
theorem dX2_isIn_6 : decode cX2_isIn 6 = .ok (.iload_n 2, 1) := by decide +kernel
theorem dX2_isIn_7 : decode cX2_isIn 7 = .ok (.if_icmp .gt 7, 3) := by decide +kernel
theorem dX2_isIn_10 : decode cX2_isIn 10 = .ok (.iconst 1, 1) := by decide +kernel
theorem dX2_isIn_11 : decode cX2_isIn 11 = .ok (.goto 4, 3) := by decide +kernel
theorem dX2_isIn_14 : decode cX2_isIn 14 = .ok (.iconst 0, 1) := by decide +kernel
theorem dX2_isIn_15 : decode cX2_isIn 15 = .ok (.ireturn, 1) := by decide +kernel
theorem dX2_apart_0 : decode cX2_apart 0 = .ok (.iload_n 0, 1) := by decide +kernel
theorem dX2_apart_1 : decode cX2_apart 1 = .ok (.iload_n 1, 1) := by decide +kernel
theorem dX2_apart_2 : decode cX2_apart 2 = .ok (.if_icmp .ge 9, 3) := by decide +kernel
theorem dX2_apart_5 : decode cX2_apart 5 = .ok (.iload_n 1, 1) := by decide +kernel
theorem dX2_apart_6 : decode cX2_apart 6 = .ok (.iload_n 0, 1) := by decide +kernel
theorem dX2_apart_7 : decode cX2_apart 7 = .ok (.isub, 1) := by decide +kernel
theorem dX2_apart_8 : decode cX2_apart 8 = .ok (.goto 6, 3) := by decide +kernel
theorem dX2_apart_11 : decode cX2_apart 11 = .ok (.iload_n 0, 1) := by decide +kernel
theorem dX2_apart_12 : decode cX2_apart 12 = .ok (.iload_n 1, 1) := by decide +kernel
theorem dX2_apart_13 : decode cX2_apart 13 = .ok (.isub, 1) := by decide +kernel
theorem dX2_apart_14 : decode cX2_apart 14 = .ok (.ireturn, 1) := by decide +kernel
theorem dX2_copies_0 : decode cX2_copies 0 = .ok (.iconst 0, 1) := by decide +kernel
theorem dX2_copies_1 : decode cX2_copies 1 = .ok (.istore_n 2, 1) := by decide +kernel
theorem dX2_copies_2 : decode cX2_copies 2 = .ok (.iload_n 2, 1) := by decide +kernel
theorem dX2_copies_3 : decode cX2_copies 3 = .ok (.bipush 81, 2) := by decide +kernel
theorem dX2_copies_5 : decode cX2_copies 5 = .ok (.if_icmp .ge 15, 3) := by decide +kernel
theorem dX2_copies_8 : decode cX2_copies 8 = .ok (.aload_n 1, 1) := by decide +kernel
theorem dX2_copies_9 : decode cX2_copies 9 = .ok (.iload_n 2, 1) := by decide +kernel
theorem dX2_copies_10 : decode cX2_copies 10 = .ok (.aload_n 0, 1) := by decide +kernel
theorem dX2_copies_11 : decode cX2_copies 11 = .ok (.iload_n 2, 1) := by decide +kernel
theorem dX2_copies_12 : decode cX2_copies 12 = .ok (.iaload, 1) := by decide +kernel
theorem dX2_copies_13 : decode cX2_copies 13 = .ok (.iastore, 1) := by decide +kernel
theorem dX2_copies_14 : decode cX2_copies 14 = .ok (.iinc 2 1, 3) := by decide +kernel
theorem dX2_copies_17 : decode cX2_copies 17 = .ok (.goto (-15), 3) := by decide +kernel
theorem dX2_copies_20 : decode cX2_copies 20 = .ok (.return_, 1) := by decide +kernel
theorem dX2_no_0 : decode cX2_no 0 = .ok (.aload_n 0, 1) := by decide +kernel
theorem dX2_no_1 : decode cX2_no 1 = .ok (.getfield 28, 3) := by decide +kernel
theorem dX2_no_4 : decode cX2_no 4 = .ok (.iload_n 1, 1) := by decide +kernel
theorem dX2_no_5 : decode cX2_no 5 = .ok (.ineg, 1) := by decide +kernel
theorem dX2_no_6 : decode cX2_no 6 = .ok (.dup2, 1) := by decide +kernel
theorem dX2_no_7 : decode cX2_no 7 = .ok (.iaload, 1) := by decide +kernel
theorem dX2_no_8 : decode cX2_no 8 = .ok (.iconst 1, 1) := by decide +kernel
theorem dX2_no_9 : decode cX2_no 9 = .ok (.iadd, 1) := by decide +kernel
theorem dX2_no_10 : decode cX2_no 10 = .ok (.iastore, 1) := by decide +kernel
theorem dX2_no_11 : decode cX2_no 11 = .ok (.iload_n 1, 1) := by decide +kernel
theorem dX2_no_12 : decode cX2_no 12 = .ok (.ireturn, 1) := by decide +kernel
set_option maxRecDepth 20000 in
theorem ggX2_noWide_X2_no : GoodIn wsX2_noWide wsX2_no := goodIn_r _ [6, 7, 8, 9, 10, 11, 12, 13, 14, 15, 16, 17, 18, 19, 20] (by decide +kernel) (by decide +kernel)
set_option maxRecDepth 20000 in
theorem gX2_noWide_X2_no : GoodIn wsX2_noWide (wsV RX2 36 RX2 yX2_no wsX2_no) := goodIn_app (goodIn_of _ (by decide +kernel)) ggX2_noWide_X2_no
theorem dX2_noWide_0 : decode cX2_noWide 0 = .ok (.ldc2_w 34, 3) := by decide +kernel
theorem dX2_noWide_3 : decode cX2_noWide 3 = .ok (.aload_n 0, 1) := by decide +kernel
theorem dX2_noWide_4 : decode cX2_noWide 4 = .ok (.iload_n 1, 1) := by decide +kernel
theorem dX2_noWide_5 : decode cX2_noWide 5 = .ok (.invokevirtual 36, 3) := by decide +kernel
theorem dX2_noWide_8 : decode cX2_noWide 8 = .ok (.i2l, 1) := by decide +kernel
theorem dX2_noWide_9 : decode cX2_noWide 9 = .ok (.lsub, 1) := by decide +kernel
theorem dX2_noWide_10 : decode cX2_noWide 10 = .ok (.lreturn, 1) := by decide +kernel
theorem dX2_ofR_0 : decode cX2_ofR 0 = .ok (.iconst 5, 1) := by decide +kernel
theorem dX2_ofR_1 : decode cX2_ofR 1 = .ok (.iconst 4, 1) := by decide +kernel
theorem dX2_ofR_2 : decode cX2_ofR 2 = .ok (.iload_n 0, 1) := by decide +kernel
theorem dX2_ofR_3 : decode cX2_ofR 3 = .ok (.imul, 1) := by decide +kernel
theorem dX2_ofR_4 : decode cX2_ofR 4 = .ok (.iadd, 1) := by decide +kernel
theorem dX2_ofR_5 : decode cX2_ofR 5 = .ok (.iload_n 1, 1) := by decide +kernel
theorem dX2_ofR_6 : decode cX2_ofR 6 = .ok (.iadd, 1) := by decide +kernel
theorem dX2_ofR_7 : decode cX2_ofR 7 = .ok (.ireturn, 1) := by decide +kernel
theorem dX2_ofP_0 : decode cX2_ofP 0 = .ok (.bipush 41, 2) := by decide +kernel
theorem dX2_ofP_2 : decode cX2_ofP 2 = .ok (.bipush 8, 2) := by decide +kernel
theorem dX2_ofP_4 : decode cX2_ofP 4 = .ok (.iload_n 0, 1) := by decide +kernel
theorem dX2_ofP_5 : decode cX2_ofP 5 = .ok (.imul, 1) := by decide +kernel
theorem dX2_ofP_6 : decode cX2_ofP 6 = .ok (.iadd, 1) := by decide +kernel
theorem dX2_ofP_7 : decode cX2_ofP 7 = .ok (.iload_n 1, 1) := by decide +kernel
theorem dX2_ofP_8 : decode cX2_ofP 8 = .ok (.iadd, 1) := by decide +kernel
theorem dX2_ofP_9 : decode cX2_ofP 9 = .ok (.ireturn, 1) := by decide +kernel
set_option maxRecDepth 20000 in
theorem ggX2_isRocket_X2_isIn : GoodIn wsX2_isRocket wsX2_isIn := goodIn_r _ [5] (by decide +kernel) (by decide +kernel)
set_option maxRecDepth 20000 in
theorem gX2_isRocket_X2_isIn : GoodIn wsX2_isRocket (va_wsS RX2 40 yX2_isIn wsX2_isIn) := goodIn_app (goodIn_of _ (by decide +kernel)) ggX2_isRocket_X2_isIn
theorem dX2_isRocket_0 : decode cX2_isRocket 0 = .ok (.iload_n 1, 1) := by decide +kernel
theorem dX2_isRocket_1 : decode cX2_isRocket 1 = .ok (.iconst 0, 1) := by decide +kernel
theorem dX2_isRocket_2 : decode cX2_isRocket 2 = .ok (.aload_n 0, 1) := by decide +kernel
theorem dX2_isRocket_3 : decode cX2_isRocket 3 = .ok (.getfield 9, 3) := by decide +kernel
theorem dX2_isRocket_6 : decode cX2_isRocket 6 = .ok (.iconst 0, 1) := by decide +kernel
theorem dX2_isRocket_7 : decode cX2_isRocket 7 = .ok (.iaload, 1) := by decide +kernel
theorem dX2_isRocket_8 : decode cX2_isRocket 8 = .ok (.iconst 1, 1) := by decide +kernel
theorem dX2_isRocket_9 : decode cX2_isRocket 9 = .ok (.isub, 1) := by decide +kernel
theorem dX2_isRocket_10 : decode cX2_isRocket 10 = .ok (.invokestatic 40, 3) := by decide +kernel
theorem dX2_isRocket_13 : decode cX2_isRocket 13 = .ok (.ireturn, 1) := by decide +kernel
set_option maxRecDepth 20000 in
theorem ggX2_isReader_X2_isIn : GoodIn wsX2_isReader wsX2_isIn := goodIn_r _ [5] (by decide +kernel) (by decide +kernel)
set_option maxRecDepth 20000 in
theorem gX2_isReader_X2_isIn : GoodIn wsX2_isReader (va_wsS RX2 40 yX2_isIn wsX2_isIn) := goodIn_app (goodIn_of _ (by decide +kernel)) ggX2_isReader_X2_isIn
theorem dX2_isReader_0 : decode cX2_isReader 0 = .ok (.iload_n 1, 1) := by decide +kernel
theorem dX2_isReader_1 : decode cX2_isReader 1 = .ok (.iconst 0, 1) := by decide +kernel
theorem dX2_isReader_2 : decode cX2_isReader 2 = .ok (.aload_n 0, 1) := by decide +kernel
theorem dX2_isReader_3 : decode cX2_isReader 3 = .ok (.getfield 9, 3) := by decide +kernel
theorem dX2_isReader_6 : decode cX2_isReader 6 = .ok (.iconst 1, 1) := by decide +kernel
theorem dX2_isReader_7 : decode cX2_isReader 7 = .ok (.iaload, 1) := by decide +kernel
theorem dX2_isReader_8 : decode cX2_isReader 8 = .ok (.iconst 1, 1) := by decide +kernel
theorem dX2_isReader_9 : decode cX2_isReader 9 = .ok (.isub, 1) := by decide +kernel
theorem dX2_isReader_10 : decode cX2_isReader 10 = .ok (.invokestatic 40, 3) := by decide +kernel
theorem dX2_isReader_13 : decode cX2_isReader 13 = .ok (.ireturn, 1) := by decide +kernel
theorem dX2_has_0 : decode cX2_has 0 = .ok (.iload_n 0, 1) := by decide +kernel
theorem dX2_has_1 : decode cX2_has 1 = .ok (.iload_n 1, 1) := by decide +kernel
theorem dX2_has_2 : decode cX2_has 2 = .ok (.ishr, 1) := by decide +kernel
theorem dX2_has_3 : decode cX2_has 3 = .ok (.iconst 1, 1) := by decide +kernel
theorem dX2_has_4 : decode cX2_has 4 = .ok (.iand, 1) := by decide +kernel
theorem dX2_has_5 : decode cX2_has 5 = .ok (.iconst 1, 1) := by decide +kernel
theorem dX2_has_6 : decode cX2_has 6 = .ok (.if_icmp .ne 7, 3) := by decide +kernel
theorem dX2_has_9 : decode cX2_has 9 = .ok (.iconst 1, 1) := by decide +kernel
theorem dX2_has_10 : decode cX2_has 10 = .ok (.goto 4, 3) := by decide +kernel
theorem dX2_has_13 : decode cX2_has 13 = .ok (.iconst 0, 1) := by decide +kernel
theorem dX2_has_14 : decode cX2_has 14 = .ok (.ireturn, 1) := by decide +kernel
theorem dX2_bits_0 : decode cX2_bits 0 = .ok (.iconst 0, 1) := by decide +kernel
theorem dX2_bits_1 : decode cX2_bits 1 = .ok (.istore_n 1, 1) := by decide +kernel
theorem dX2_bits_2 : decode cX2_bits 2 = .ok (.iconst 0, 1) := by decide +kernel
theorem dX2_bits_3 : decode cX2_bits 3 = .ok (.istore_n 2, 1) := by decide +kernel
theorem dX2_bits_4 : decode cX2_bits 4 = .ok (.iload_n 2, 1) := by decide +kernel
theorem dX2_bits_5 : decode cX2_bits 5 = .ok (.bipush 9, 2) := by decide +kernel
theorem dX2_bits_7 : decode cX2_bits 7 = .ok (.if_icmp .ge 17, 3) := by decide +kernel
theorem dX2_bits_10 : decode cX2_bits 10 = .ok (.iload_n 1, 1) := by decide +kernel
theorem dX2_bits_11 : decode cX2_bits 11 = .ok (.iload_n 0, 1) := by decide +kernel
theorem dX2_bits_12 : decode cX2_bits 12 = .ok (.iload_n 2, 1) := by decide +kernel
theorem dX2_bits_13 : decode cX2_bits 13 = .ok (.ishr, 1) := by decide +kernel
theorem dX2_bits_14 : decode cX2_bits 14 = .ok (.iconst 1, 1) := by decide +kernel
theorem dX2_bits_15 : decode cX2_bits 15 = .ok (.iand, 1) := by decide +kernel
theorem dX2_bits_16 : decode cX2_bits 16 = .ok (.iadd, 1) := by decide +kernel
theorem dX2_bits_17 : decode cX2_bits 17 = .ok (.istore_n 1, 1) := by decide +kernel
theorem dX2_bits_18 : decode cX2_bits 18 = .ok (.iinc 2 1, 3) := by decide +kernel
theorem dX2_bits_21 : decode cX2_bits 21 = .ok (.goto (-17), 3) := by decide +kernel
theorem dX2_bits_24 : decode cX2_bits 24 = .ok (.iload_n 1, 1) := by decide +kernel
theorem dX2_bits_25 : decode cX2_bits 25 = .ok (.ireturn, 1) := by decide +kernel
theorem dX2_costBy_0 : decode cX2_costBy 0 = .ok (.iload_n 0, 1) := by decide +kernel
theorem dX2_costBy_1 : decode cX2_costBy 1 = .ok (.tableswitch 48 1 5 #[35, 37, 40, 43, 45], 35) := by decide +kernel
theorem dX2_costBy_36 : decode cX2_costBy 36 = .ok (.iconst 1, 1) := by decide +kernel
theorem dX2_costBy_37 : decode cX2_costBy 37 = .ok (.ireturn, 1) := by decide +kernel
theorem dX2_costBy_38 : decode cX2_costBy 38 = .ok (.bipush 10, 2) := by decide +kernel
theorem dX2_costBy_40 : decode cX2_costBy 40 = .ok (.ireturn, 1) := by decide +kernel
theorem dX2_costBy_41 : decode cX2_costBy 41 = .ok (.bipush 11, 2) := by decide +kernel
theorem dX2_costBy_43 : decode cX2_costBy 43 = .ok (.ireturn, 1) := by decide +kernel
theorem dX2_costBy_44 : decode cX2_costBy 44 = .ok (.iconst 3, 1) := by decide +kernel
theorem dX2_costBy_45 : decode cX2_costBy 45 = .ok (.ireturn, 1) := by decide +kernel
theorem dX2_costBy_46 : decode cX2_costBy 46 = .ok (.bipush 21, 2) := by decide +kernel
theorem dX2_costBy_48 : decode cX2_costBy 48 = .ok (.ireturn, 1) := by decide +kernel
theorem dX2_costBy_49 : decode cX2_costBy 49 = .ok (.iconst 5, 1) := by decide +kernel
theorem dX2_costBy_50 : decode cX2_costBy 50 = .ok (.ireturn, 1) := by decide +kernel
theorem dX2_reachBy_0 : decode cX2_reachBy 0 = .ok (.iload_n 1, 1) := by decide +kernel
theorem dX2_reachBy_1 : decode cX2_reachBy 1 = .ok (.iconst 2, 1) := by decide +kernel
theorem dX2_reachBy_2 : decode cX2_reachBy 2 = .ok (.idiv, 1) := by decide +kernel
theorem dX2_reachBy_3 : decode cX2_reachBy 3 = .ok (.iconst 2, 1) := by decide +kernel
theorem dX2_reachBy_4 : decode cX2_reachBy 4 = .ok (.iadd, 1) := by decide +kernel
theorem dX2_reachBy_5 : decode cX2_reachBy 5 = .ok (.istore_n 2, 1) := by decide +kernel
theorem dX2_reachBy_6 : decode cX2_reachBy 6 = .ok (.iload_n 0, 1) := by decide +kernel
theorem dX2_reachBy_7 : decode cX2_reachBy 7 = .ok (.tableswitch 47 1 5 #[33, 37, 37, 33, 41], 33) := by decide +kernel
theorem dX2_reachBy_40 : decode cX2_reachBy 40 = .ok (.iload_n 2, 1) := by decide +kernel
theorem dX2_reachBy_41 : decode cX2_reachBy 41 = .ok (.iconst 2, 1) := by decide +kernel
theorem dX2_reachBy_42 : decode cX2_reachBy 42 = .ok (.idiv, 1) := by decide +kernel
theorem dX2_reachBy_43 : decode cX2_reachBy 43 = .ok (.ireturn, 1) := by decide +kernel
theorem dX2_reachBy_44 : decode cX2_reachBy 44 = .ok (.iload_n 2, 1) := by decide +kernel
theorem dX2_reachBy_45 : decode cX2_reachBy 45 = .ok (.iconst 3, 1) := by decide +kernel
theorem dX2_reachBy_46 : decode cX2_reachBy 46 = .ok (.iadd, 1) := by decide +kernel
theorem dX2_reachBy_47 : decode cX2_reachBy 47 = .ok (.ireturn, 1) := by decide +kernel
theorem dX2_reachBy_48 : decode cX2_reachBy 48 = .ok (.iconst 2, 1) := by decide +kernel
theorem dX2_reachBy_49 : decode cX2_reachBy 49 = .ok (.iload_n 2, 1) := by decide +kernel
theorem dX2_reachBy_50 : decode cX2_reachBy 50 = .ok (.iconst 3, 1) := by decide +kernel
theorem dX2_reachBy_51 : decode cX2_reachBy 51 = .ok (.iadd, 1) := by decide +kernel
theorem dX2_reachBy_52 : decode cX2_reachBy 52 = .ok (.imul, 1) := by decide +kernel
theorem dX2_reachBy_53 : decode cX2_reachBy 53 = .ok (.ireturn, 1) := by decide +kernel
theorem dX2_reachBy_54 : decode cX2_reachBy 54 = .ok (.iload_n 2, 1) := by decide +kernel
theorem dX2_reachBy_55 : decode cX2_reachBy 55 = .ok (.ireturn, 1) := by decide +kernel
theorem dX2_darkBy_0 : decode cX2_darkBy 0 = .ok (.iload_n 0, 1) := by decide +kernel
theorem dX2_darkBy_1 : decode cX2_darkBy 1 = .ok (.tableswitch 46 1 5 #[35, 40, 40, 37, 40], 35) := by decide +kernel
theorem dX2_darkBy_36 : decode cX2_darkBy 36 = .ok (.iconst 0, 1) := by decide +kernel
theorem dX2_darkBy_37 : decode cX2_darkBy 37 = .ok (.ireturn, 1) := by decide +kernel
theorem dX2_darkBy_38 : decode cX2_darkBy 38 = .ok (.bipush 9, 2) := by decide +kernel
theorem dX2_darkBy_40 : decode cX2_darkBy 40 = .ok (.ireturn, 1) := by decide +kernel
theorem dX2_darkBy_41 : decode cX2_darkBy 41 = .ok (.iconst 2, 1) := by decide +kernel
theorem dX2_darkBy_42 : decode cX2_darkBy 42 = .ok (.iload_n 1, 1) := by decide +kernel
theorem dX2_darkBy_43 : decode cX2_darkBy 43 = .ok (.iconst 1, 1) := by decide +kernel
theorem dX2_darkBy_44 : decode cX2_darkBy 44 = .ok (.iadd, 1) := by decide +kernel
theorem dX2_darkBy_45 : decode cX2_darkBy 45 = .ok (.imul, 1) := by decide +kernel
theorem dX2_darkBy_46 : decode cX2_darkBy 46 = .ok (.ireturn, 1) := by decide +kernel
theorem dX2_darkBy_47 : decode cX2_darkBy 47 = .ok (.iload_n 1, 1) := by decide +kernel
theorem dX2_darkBy_48 : decode cX2_darkBy 48 = .ok (.iconst 1, 1) := by decide +kernel
theorem dX2_darkBy_49 : decode cX2_darkBy 49 = .ok (.iadd, 1) := by decide +kernel
theorem dX2_darkBy_50 : decode cX2_darkBy 50 = .ok (.ireturn, 1) := by decide +kernel
set_option maxRecDepth 20000 in
theorem ggX2_burstsAt_X2_ofR : GoodIn wsX2_burstsAt wsX2_ofR := goodIn_r _ [4] (by decide +kernel) (by decide +kernel)
set_option maxRecDepth 20000 in
theorem gX2_burstsAt_X2_ofR : GoodIn wsX2_burstsAt (va_wsS RX2 44 yX2_ofR wsX2_ofR) := goodIn_app (goodIn_of _ (by decide +kernel)) ggX2_burstsAt_X2_ofR
theorem dX2_burstsAt_0 : decode cX2_burstsAt 0 = .ok (.aload_n 0, 1) := by decide +kernel
theorem dX2_burstsAt_1 : decode cX2_burstsAt 1 = .ok (.iload_n 1, 1) := by decide +kernel
theorem dX2_burstsAt_2 : decode cX2_burstsAt 2 = .ok (.iconst 0, 1) := by decide +kernel
theorem dX2_burstsAt_3 : decode cX2_burstsAt 3 = .ok (.invokestatic 44, 3) := by decide +kernel
theorem dX2_burstsAt_6 : decode cX2_burstsAt 6 = .ok (.iaload, 1) := by decide +kernel
theorem dX2_burstsAt_7 : decode cX2_burstsAt 7 = .ok (.istore_n 2, 1) := by decide +kernel
theorem dX2_burstsAt_8 : decode cX2_burstsAt 8 = .ok (.bipush 10, 2) := by decide +kernel
theorem dX2_burstsAt_10 : decode cX2_burstsAt 10 = .ok (.aload_n 0, 1) := by decide +kernel
theorem dX2_burstsAt_11 : decode cX2_burstsAt 11 = .ok (.iconst 4, 1) := by decide +kernel
theorem dX2_burstsAt_12 : decode cX2_burstsAt 12 = .ok (.iaload, 1) := by decide +kernel
theorem dX2_burstsAt_13 : decode cX2_burstsAt 13 = .ok (.iconst 5, 1) := by decide +kernel
theorem dX2_burstsAt_14 : decode cX2_burstsAt 14 = .ok (.isub, 1) := by decide +kernel
theorem dX2_burstsAt_15 : decode cX2_burstsAt 15 = .ok (.iload_n 2, 1) := by decide +kernel
theorem dX2_burstsAt_16 : decode cX2_burstsAt 16 = .ok (.iconst 3, 1) := by decide +kernel
theorem dX2_burstsAt_17 : decode cX2_burstsAt 17 = .ok (.if_icmp .eq 8, 3) := by decide +kernel
theorem dX2_burstsAt_20 : decode cX2_burstsAt 20 = .ok (.iload_n 2, 1) := by decide +kernel
theorem dX2_burstsAt_21 : decode cX2_burstsAt 21 = .ok (.iconst 5, 1) := by decide +kernel
theorem dX2_burstsAt_22 : decode cX2_burstsAt 22 = .ok (.if_icmp .ne 7, 3) := by decide +kernel
theorem dX2_burstsAt_25 : decode cX2_burstsAt 25 = .ok (.iconst 3, 1) := by decide +kernel
theorem dX2_burstsAt_26 : decode cX2_burstsAt 26 = .ok (.goto 4, 3) := by decide +kernel
theorem dX2_burstsAt_29 : decode cX2_burstsAt 29 = .ok (.iconst 1, 1) := by decide +kernel
theorem dX2_burstsAt_30 : decode cX2_burstsAt 30 = .ok (.imul, 1) := by decide +kernel
theorem dX2_burstsAt_31 : decode cX2_burstsAt 31 = .ok (.iadd, 1) := by decide +kernel
theorem dX2_burstsAt_32 : decode cX2_burstsAt 32 = .ok (.istore_n 3, 1) := by decide +kernel
theorem dX2_burstsAt_33 : decode cX2_burstsAt 33 = .ok (.iload_n 3, 1) := by decide +kernel
theorem dX2_burstsAt_34 : decode cX2_burstsAt 34 = .ok (.ifCond .ge 7, 3) := by decide +kernel
theorem dX2_burstsAt_37 : decode cX2_burstsAt 37 = .ok (.iconst 0, 1) := by decide +kernel
theorem dX2_burstsAt_38 : decode cX2_burstsAt 38 = .ok (.goto 15, 3) := by decide +kernel
theorem dX2_burstsAt_41 : decode cX2_burstsAt 41 = .ok (.iload_n 3, 1) := by decide +kernel
theorem dX2_burstsAt_42 : decode cX2_burstsAt 42 = .ok (.bipush 20, 2) := by decide +kernel
theorem dX2_burstsAt_44 : decode cX2_burstsAt 44 = .ok (.if_icmp .lt 8, 3) := by decide +kernel
theorem dX2_burstsAt_47 : decode cX2_burstsAt 47 = .ok (.bipush 19, 2) := by decide +kernel
theorem dX2_burstsAt_49 : decode cX2_burstsAt 49 = .ok (.goto 4, 3) := by decide +kernel
theorem dX2_burstsAt_52 : decode cX2_burstsAt 52 = .ok (.iload_n 3, 1) := by decide +kernel
theorem dX2_burstsAt_53 : decode cX2_burstsAt 53 = .ok (.ireturn, 1) := by decide +kernel
set_option maxRecDepth 20000 in
theorem ggX2_isRead_X2_ofP : GoodIn wsX2_isRead wsX2_ofP := goodIn_r _ [4] (by decide +kernel) (by decide +kernel)
set_option maxRecDepth 20000 in
theorem gX2_isRead_X2_ofP : GoodIn wsX2_isRead (va_wsS RX2 48 yX2_ofP wsX2_ofP) := goodIn_app (goodIn_of _ (by decide +kernel)) ggX2_isRead_X2_ofP
set_option maxRecDepth 20000 in
theorem ggX2_isRead_X2_burstsAt : GoodIn wsX2_isRead wsX2_burstsAt := goodIn_r _ [7, 8, 9, 3, 10] (by decide +kernel) (by decide +kernel)
set_option maxRecDepth 20000 in
theorem gX2_isRead_X2_burstsAt : GoodIn wsX2_isRead (va_wsS RX2 51 yX2_burstsAt wsX2_burstsAt) := goodIn_app (goodIn_of _ (by decide +kernel)) ggX2_isRead_X2_burstsAt
set_option maxRecDepth 20000 in
theorem ggX2_isRead_X2_apart : GoodIn wsX2_isRead wsX2_apart := goodIn_r _ [13] (by decide +kernel) (by decide +kernel)
set_option maxRecDepth 20000 in
theorem gX2_isRead_X2_apart : GoodIn wsX2_isRead (va_wsS RX2 55 yX2_apart wsX2_apart) := goodIn_app (goodIn_of _ (by decide +kernel)) ggX2_isRead_X2_apart
set_option maxRecDepth 20000 in
theorem ggX2_isRead_X2_ofR : GoodIn wsX2_isRead wsX2_ofR := goodIn_r _ [10] (by decide +kernel) (by decide +kernel)
set_option maxRecDepth 20000 in
theorem gX2_isRead_X2_ofR : GoodIn wsX2_isRead (va_wsS RX2 44 yX2_ofR wsX2_ofR) := goodIn_app (goodIn_of _ (by decide +kernel)) ggX2_isRead_X2_ofR
set_option maxRecDepth 20000 in
theorem ggX2_isRead_X2_reachBy : GoodIn wsX2_isRead wsX2_reachBy := goodIn_r _ [16] (by decide +kernel) (by decide +kernel)
set_option maxRecDepth 20000 in
theorem gX2_isRead_X2_reachBy : GoodIn wsX2_isRead (va_wsS RX2 58 yX2_reachBy wsX2_reachBy) := goodIn_app (goodIn_of _ (by decide +kernel)) ggX2_isRead_X2_reachBy
theorem dX2_isRead_0 : decode cX2_isRead 0 = .ok (.aload_n 0, 1) := by decide +kernel
theorem dX2_isRead_1 : decode cX2_isRead 1 = .ok (.iload_n 2, 1) := by decide +kernel
theorem dX2_isRead_2 : decode cX2_isRead 2 = .ok (.iconst 0, 1) := by decide +kernel
theorem dX2_isRead_3 : decode cX2_isRead 3 = .ok (.invokestatic 48, 3) := by decide +kernel
theorem dX2_isRead_6 : decode cX2_isRead 6 = .ok (.iaload, 1) := by decide +kernel
theorem dX2_isRead_7 : decode cX2_isRead 7 = .ok (.aload_n 0, 1) := by decide +kernel
theorem dX2_isRead_8 : decode cX2_isRead 8 = .ok (.iload_n 1, 1) := by decide +kernel
theorem dX2_isRead_9 : decode cX2_isRead 9 = .ok (.invokestatic 51, 3) := by decide +kernel
theorem dX2_isRead_12 : decode cX2_isRead 12 = .ok (.invokestatic 55, 3) := by decide +kernel
theorem dX2_isRead_15 : decode cX2_isRead 15 = .ok (.aload_n 0, 1) := by decide +kernel
theorem dX2_isRead_16 : decode cX2_isRead 16 = .ok (.iload_n 1, 1) := by decide +kernel
theorem dX2_isRead_17 : decode cX2_isRead 17 = .ok (.iconst 0, 1) := by decide +kernel
theorem dX2_isRead_18 : decode cX2_isRead 18 = .ok (.invokestatic 44, 3) := by decide +kernel
theorem dX2_isRead_21 : decode cX2_isRead 21 = .ok (.iaload, 1) := by decide +kernel
theorem dX2_isRead_22 : decode cX2_isRead 22 = .ok (.aload_n 0, 1) := by decide +kernel
theorem dX2_isRead_23 : decode cX2_isRead 23 = .ok (.iload_n 1, 1) := by decide +kernel
theorem dX2_isRead_24 : decode cX2_isRead 24 = .ok (.iconst 1, 1) := by decide +kernel
theorem dX2_isRead_25 : decode cX2_isRead 25 = .ok (.invokestatic 44, 3) := by decide +kernel
theorem dX2_isRead_28 : decode cX2_isRead 28 = .ok (.iaload, 1) := by decide +kernel
theorem dX2_isRead_29 : decode cX2_isRead 29 = .ok (.invokestatic 58, 3) := by decide +kernel
theorem dX2_isRead_32 : decode cX2_isRead 32 = .ok (.if_icmp .gt 7, 3) := by decide +kernel
theorem dX2_isRead_35 : decode cX2_isRead 35 = .ok (.iconst 1, 1) := by decide +kernel
theorem dX2_isRead_36 : decode cX2_isRead 36 = .ok (.goto 4, 3) := by decide +kernel
theorem dX2_isRead_39 : decode cX2_isRead 39 = .ok (.iconst 0, 1) := by decide +kernel
theorem dX2_isRead_40 : decode cX2_isRead 40 = .ok (.ireturn, 1) := by decide +kernel
set_option maxRecDepth 20000 in
theorem ggX2_readers_X2_isRead : GoodIn wsX2_readers wsX2_isRead := goodIn_r _ [4, 5, 6, 3, 7, 8, 9, 10, 11, 12, 13, 14, 15, 16, 17, 18, 19] (by decide +kernel) (by decide +kernel)
set_option maxRecDepth 20000 in
theorem gX2_readers_X2_isRead : GoodIn wsX2_readers (va_wsS RX2 61 yX2_isRead wsX2_isRead) := goodIn_app (goodIn_of _ (by decide +kernel)) ggX2_readers_X2_isRead
theorem dX2_readers_0 : decode cX2_readers 0 = .ok (.iconst 0, 1) := by decide +kernel
theorem dX2_readers_1 : decode cX2_readers 1 = .ok (.istore_n 2, 1) := by decide +kernel
theorem dX2_readers_2 : decode cX2_readers 2 = .ok (.iconst 0, 1) := by decide +kernel
theorem dX2_readers_3 : decode cX2_readers 3 = .ok (.istore_n 3, 1) := by decide +kernel
theorem dX2_readers_4 : decode cX2_readers 4 = .ok (.iload_n 3, 1) := by decide +kernel
theorem dX2_readers_5 : decode cX2_readers 5 = .ok (.aload_n 0, 1) := by decide +kernel
theorem dX2_readers_6 : decode cX2_readers 6 = .ok (.iconst 1, 1) := by decide +kernel
theorem dX2_readers_7 : decode cX2_readers 7 = .ok (.iaload, 1) := by decide +kernel
theorem dX2_readers_8 : decode cX2_readers 8 = .ok (.if_icmp .ge 28, 3) := by decide +kernel
theorem dX2_readers_11 : decode cX2_readers 11 = .ok (.iload_n 2, 1) := by decide +kernel
theorem dX2_readers_12 : decode cX2_readers 12 = .ok (.aload_n 0, 1) := by decide +kernel
theorem dX2_readers_13 : decode cX2_readers 13 = .ok (.iload_n 1, 1) := by decide +kernel
theorem dX2_readers_14 : decode cX2_readers 14 = .ok (.iload_n 3, 1) := by decide +kernel
theorem dX2_readers_15 : decode cX2_readers 15 = .ok (.invokestatic 61, 3) := by decide +kernel
theorem dX2_readers_18 : decode cX2_readers 18 = .ok (.ifCond .eq 9, 3) := by decide +kernel
theorem dX2_readers_21 : decode cX2_readers 21 = .ok (.iconst 1, 1) := by decide +kernel
theorem dX2_readers_22 : decode cX2_readers 22 = .ok (.iload_n 3, 1) := by decide +kernel
theorem dX2_readers_23 : decode cX2_readers 23 = .ok (.ishl, 1) := by decide +kernel
theorem dX2_readers_24 : decode cX2_readers 24 = .ok (.goto 4, 3) := by decide +kernel
theorem dX2_readers_27 : decode cX2_readers 27 = .ok (.iconst 0, 1) := by decide +kernel
theorem dX2_readers_28 : decode cX2_readers 28 = .ok (.ior, 1) := by decide +kernel
theorem dX2_readers_29 : decode cX2_readers 29 = .ok (.istore_n 2, 1) := by decide +kernel
theorem dX2_readers_30 : decode cX2_readers 30 = .ok (.iinc 3 1, 3) := by decide +kernel
theorem dX2_readers_33 : decode cX2_readers 33 = .ok (.goto (-29), 3) := by decide +kernel
theorem dX2_readers_36 : decode cX2_readers 36 = .ok (.iload_n 2, 1) := by decide +kernel
theorem dX2_readers_37 : decode cX2_readers 37 = .ok (.ireturn, 1) := by decide +kernel
set_option maxRecDepth 20000 in
theorem ggX2_bursts_X2_has : GoodIn wsX2_bursts wsX2_has := goodIn_r _ [4] (by decide +kernel) (by decide +kernel)
set_option maxRecDepth 20000 in
theorem gX2_bursts_X2_has : GoodIn wsX2_bursts (va_wsS RX2 65 yX2_has wsX2_has) := goodIn_app (goodIn_of _ (by decide +kernel)) ggX2_bursts_X2_has
set_option maxRecDepth 20000 in
theorem ggX2_bursts_X2_isRead : GoodIn wsX2_bursts wsX2_isRead := goodIn_r _ [7, 8, 9, 3, 10, 11, 12, 13, 14, 15, 16, 17, 18, 19, 20, 21, 22] (by decide +kernel) (by decide +kernel)
set_option maxRecDepth 20000 in
theorem gX2_bursts_X2_isRead : GoodIn wsX2_bursts (va_wsS RX2 61 yX2_isRead wsX2_isRead) := goodIn_app (goodIn_of _ (by decide +kernel)) ggX2_bursts_X2_isRead
set_option maxRecDepth 20000 in
theorem ggX2_bursts_X2_ofP : GoodIn wsX2_bursts wsX2_ofP := goodIn_r _ [10] (by decide +kernel) (by decide +kernel)
set_option maxRecDepth 20000 in
theorem gX2_bursts_X2_ofP : GoodIn wsX2_bursts (va_wsS RX2 48 yX2_ofP wsX2_ofP) := goodIn_app (goodIn_of _ (by decide +kernel)) ggX2_bursts_X2_ofP
set_option maxRecDepth 20000 in
theorem ggX2_bursts_X2_ofR : GoodIn wsX2_bursts wsX2_ofR := goodIn_r _ [16] (by decide +kernel) (by decide +kernel)
set_option maxRecDepth 20000 in
theorem gX2_bursts_X2_ofR : GoodIn wsX2_bursts (va_wsS RX2 44 yX2_ofR wsX2_ofR) := goodIn_app (goodIn_of _ (by decide +kernel)) ggX2_bursts_X2_ofR
theorem dX2_bursts_0 : decode cX2_bursts 0 = .ok (.iconst 0, 1) := by decide +kernel
theorem dX2_bursts_1 : decode cX2_bursts 1 = .ok (.istore_n 3, 1) := by decide +kernel
theorem dX2_bursts_2 : decode cX2_bursts 2 = .ok (.iload_n 3, 1) := by decide +kernel
theorem dX2_bursts_3 : decode cX2_bursts 3 = .ok (.aload_n 0, 1) := by decide +kernel
theorem dX2_bursts_4 : decode cX2_bursts 4 = .ok (.iconst 1, 1) := by decide +kernel
theorem dX2_bursts_5 : decode cX2_bursts 5 = .ok (.iaload, 1) := by decide +kernel
theorem dX2_bursts_6 : decode cX2_bursts 6 = .ok (.if_icmp .ge 85, 3) := by decide +kernel
theorem dX2_bursts_9 : decode cX2_bursts 9 = .ok (.iload_n 2, 1) := by decide +kernel
theorem dX2_bursts_10 : decode cX2_bursts 10 = .ok (.iload_n 3, 1) := by decide +kernel
theorem dX2_bursts_11 : decode cX2_bursts 11 = .ok (.invokestatic 65, 3) := by decide +kernel
theorem dX2_bursts_14 : decode cX2_bursts 14 = .ok (.ifCond .eq 71, 3) := by decide +kernel
theorem dX2_bursts_17 : decode cX2_bursts 17 = .ok (.aload_n 0, 1) := by decide +kernel
theorem dX2_bursts_18 : decode cX2_bursts 18 = .ok (.iload_n 1, 1) := by decide +kernel
theorem dX2_bursts_19 : decode cX2_bursts 19 = .ok (.iload_n 3, 1) := by decide +kernel
theorem dX2_bursts_20 : decode cX2_bursts 20 = .ok (.invokestatic 61, 3) := by decide +kernel
theorem dX2_bursts_23 : decode cX2_bursts 23 = .ok (.ifCond .ne 6, 3) := by decide +kernel
theorem dX2_bursts_26 : decode cX2_bursts 26 = .ok (.goto 59, 3) := by decide +kernel
theorem dX2_bursts_29 : decode cX2_bursts 29 = .ok (.aload_n 0, 1) := by decide +kernel
theorem dX2_bursts_30 : decode cX2_bursts 30 = .ok (.iload_n 3, 1) := by decide +kernel
theorem dX2_bursts_31 : decode cX2_bursts 31 = .ok (.iconst 1, 1) := by decide +kernel
theorem dX2_bursts_32 : decode cX2_bursts 32 = .ok (.invokestatic 48, 3) := by decide +kernel
theorem dX2_bursts_35 : decode cX2_bursts 35 = .ok (.iaload, 1) := by decide +kernel
theorem dX2_bursts_36 : decode cX2_bursts 36 = .ok (.bipush 9, 2) := by decide +kernel
theorem dX2_bursts_38 : decode cX2_bursts 38 = .ok (.if_icmp .ne 8, 3) := by decide +kernel
theorem dX2_bursts_41 : decode cX2_bursts 41 = .ok (.bipush 99, 2) := by decide +kernel
theorem dX2_bursts_43 : decode cX2_bursts 43 = .ok (.goto 10, 3) := by decide +kernel
theorem dX2_bursts_46 : decode cX2_bursts 46 = .ok (.aload_n 0, 1) := by decide +kernel
theorem dX2_bursts_47 : decode cX2_bursts 47 = .ok (.iload_n 3, 1) := by decide +kernel
theorem dX2_bursts_48 : decode cX2_bursts 48 = .ok (.iconst 1, 1) := by decide +kernel
theorem dX2_bursts_49 : decode cX2_bursts 49 = .ok (.invokestatic 48, 3) := by decide +kernel
theorem dX2_bursts_52 : decode cX2_bursts 52 = .ok (.iaload, 1) := by decide +kernel
theorem dX2_bursts_53 : decode cX2_bursts 53 = .ok (.istore 4, 2) := by decide +kernel
theorem dX2_bursts_55 : decode cX2_bursts 55 = .ok (.iload_n 3, 1) := by decide +kernel
theorem dX2_bursts_56 : decode cX2_bursts 56 = .ok (.iconst 2, 1) := by decide +kernel
theorem dX2_bursts_57 : decode cX2_bursts 57 = .ok (.aload_n 0, 1) := by decide +kernel
theorem dX2_bursts_58 : decode cX2_bursts 58 = .ok (.iload_n 1, 1) := by decide +kernel
theorem dX2_bursts_59 : decode cX2_bursts 59 = .ok (.iconst 2, 1) := by decide +kernel
theorem dX2_bursts_60 : decode cX2_bursts 60 = .ok (.invokestatic 44, 3) := by decide +kernel
theorem dX2_bursts_63 : decode cX2_bursts 63 = .ok (.iaload, 1) := by decide +kernel
theorem dX2_bursts_64 : decode cX2_bursts 64 = .ok (.iadd, 1) := by decide +kernel
theorem dX2_bursts_65 : decode cX2_bursts 65 = .ok (.invokestatic 48, 3) := by decide +kernel
theorem dX2_bursts_68 : decode cX2_bursts 68 = .ok (.istore 5, 2) := by decide +kernel
theorem dX2_bursts_70 : decode cX2_bursts 70 = .ok (.iload 4, 2) := by decide +kernel
theorem dX2_bursts_72 : decode cX2_bursts 72 = .ok (.aload_n 0, 1) := by decide +kernel
theorem dX2_bursts_73 : decode cX2_bursts 73 = .ok (.iload 5, 2) := by decide +kernel
theorem dX2_bursts_75 : decode cX2_bursts 75 = .ok (.iaload, 1) := by decide +kernel
theorem dX2_bursts_76 : decode cX2_bursts 76 = .ok (.if_icmp .le 9, 3) := by decide +kernel
theorem dX2_bursts_79 : decode cX2_bursts 79 = .ok (.aload_n 0, 1) := by decide +kernel
theorem dX2_bursts_80 : decode cX2_bursts 80 = .ok (.iload 5, 2) := by decide +kernel
theorem dX2_bursts_82 : decode cX2_bursts 82 = .ok (.iload 4, 2) := by decide +kernel
theorem dX2_bursts_84 : decode cX2_bursts 84 = .ok (.iastore, 1) := by decide +kernel
theorem dX2_bursts_85 : decode cX2_bursts 85 = .ok (.iinc 3 1, 3) := by decide +kernel
theorem dX2_bursts_88 : decode cX2_bursts 88 = .ok (.goto (-86), 3) := by decide +kernel
theorem dX2_bursts_91 : decode cX2_bursts 91 = .ok (.return_, 1) := by decide +kernel
set_option maxRecDepth 20000 in
theorem ggX2_canGo_X2_ofR : GoodIn wsX2_canGo wsX2_ofR := goodIn_r _ [4] (by decide +kernel) (by decide +kernel)
set_option maxRecDepth 20000 in
theorem gX2_canGo_X2_ofR : GoodIn wsX2_canGo (va_wsS RX2 44 yX2_ofR wsX2_ofR) := goodIn_app (goodIn_of _ (by decide +kernel)) ggX2_canGo_X2_ofR
set_option maxRecDepth 20000 in
theorem ggX2_canGo_X2_costBy : GoodIn wsX2_canGo wsX2_costBy := goodIn_r _ [7] (by decide +kernel) (by decide +kernel)
set_option maxRecDepth 20000 in
theorem gX2_canGo_X2_costBy : GoodIn wsX2_canGo (va_wsS RX2 69 yX2_costBy wsX2_costBy) := goodIn_app (goodIn_of _ (by decide +kernel)) ggX2_canGo_X2_costBy
theorem dX2_canGo_0 : decode cX2_canGo 0 = .ok (.aload_n 0, 1) := by decide +kernel
theorem dX2_canGo_1 : decode cX2_canGo 1 = .ok (.iload_n 1, 1) := by decide +kernel
theorem dX2_canGo_2 : decode cX2_canGo 2 = .ok (.iconst 3, 1) := by decide +kernel
theorem dX2_canGo_3 : decode cX2_canGo 3 = .ok (.invokestatic 44, 3) := by decide +kernel
theorem dX2_canGo_6 : decode cX2_canGo 6 = .ok (.iaload, 1) := by decide +kernel
theorem dX2_canGo_7 : decode cX2_canGo 7 = .ok (.ifCond .ne 23, 3) := by decide +kernel
theorem dX2_canGo_10 : decode cX2_canGo 10 = .ok (.aload_n 0, 1) := by decide +kernel
theorem dX2_canGo_11 : decode cX2_canGo 11 = .ok (.iconst 3, 1) := by decide +kernel
theorem dX2_canGo_12 : decode cX2_canGo 12 = .ok (.iaload, 1) := by decide +kernel
theorem dX2_canGo_13 : decode cX2_canGo 13 = .ok (.aload_n 0, 1) := by decide +kernel
theorem dX2_canGo_14 : decode cX2_canGo 14 = .ok (.iload_n 1, 1) := by decide +kernel
theorem dX2_canGo_15 : decode cX2_canGo 15 = .ok (.iconst 0, 1) := by decide +kernel
theorem dX2_canGo_16 : decode cX2_canGo 16 = .ok (.invokestatic 44, 3) := by decide +kernel
theorem dX2_canGo_19 : decode cX2_canGo 19 = .ok (.iaload, 1) := by decide +kernel
theorem dX2_canGo_20 : decode cX2_canGo 20 = .ok (.invokestatic 69, 3) := by decide +kernel
theorem dX2_canGo_23 : decode cX2_canGo 23 = .ok (.if_icmp .lt 7, 3) := by decide +kernel
theorem dX2_canGo_26 : decode cX2_canGo 26 = .ok (.iconst 1, 1) := by decide +kernel
theorem dX2_canGo_27 : decode cX2_canGo 27 = .ok (.goto 4, 3) := by decide +kernel
theorem dX2_canGo_30 : decode cX2_canGo 30 = .ok (.iconst 0, 1) := by decide +kernel
theorem dX2_canGo_31 : decode cX2_canGo 31 = .ok (.ireturn, 1) := by decide +kernel
set_option maxRecDepth 20000 in
theorem ggX2_sendsIn_X2_ofR : GoodIn wsX2_sendsIn wsX2_ofR := goodIn_r _ [4] (by decide +kernel) (by decide +kernel)
set_option maxRecDepth 20000 in
theorem gX2_sendsIn_X2_ofR : GoodIn wsX2_sendsIn (va_wsS RX2 44 yX2_ofR wsX2_ofR) := goodIn_app (goodIn_of _ (by decide +kernel)) ggX2_sendsIn_X2_ofR
set_option maxRecDepth 20000 in
theorem ggX2_sendsIn_X2_costBy : GoodIn wsX2_sendsIn wsX2_costBy := goodIn_r _ [7] (by decide +kernel) (by decide +kernel)
set_option maxRecDepth 20000 in
theorem gX2_sendsIn_X2_costBy : GoodIn wsX2_sendsIn (va_wsS RX2 69 yX2_costBy wsX2_costBy) := goodIn_app (goodIn_of _ (by decide +kernel)) ggX2_sendsIn_X2_costBy
set_option maxRecDepth 20000 in
theorem ggX2_sendsIn_X2_bursts : GoodIn wsX2_sendsIn wsX2_bursts := goodIn_r _ [10, 11, 12, 3, 13, 14, 15, 16, 17, 18, 19, 20, 21, 22, 1, 2, 4, 23, 24, 25, 26, 27, 28] (by decide +kernel) (by decide +kernel)
set_option maxRecDepth 20000 in
theorem gX2_sendsIn_X2_bursts : GoodIn wsX2_sendsIn (va_wsS RX2 72 yX2_bursts wsX2_bursts) := goodIn_app (goodIn_of _ (by decide +kernel)) ggX2_sendsIn_X2_bursts
theorem dX2_sendsIn_0 : decode cX2_sendsIn 0 = .ok (.aload_n 0, 1) := by decide +kernel
theorem dX2_sendsIn_1 : decode cX2_sendsIn 1 = .ok (.iconst 3, 1) := by decide +kernel
theorem dX2_sendsIn_2 : decode cX2_sendsIn 2 = .ok (.dup2, 1) := by decide +kernel
theorem dX2_sendsIn_3 : decode cX2_sendsIn 3 = .ok (.iaload, 1) := by decide +kernel
theorem dX2_sendsIn_4 : decode cX2_sendsIn 4 = .ok (.aload_n 0, 1) := by decide +kernel
theorem dX2_sendsIn_5 : decode cX2_sendsIn 5 = .ok (.iload_n 1, 1) := by decide +kernel
theorem dX2_sendsIn_6 : decode cX2_sendsIn 6 = .ok (.iconst 0, 1) := by decide +kernel
theorem dX2_sendsIn_7 : decode cX2_sendsIn 7 = .ok (.invokestatic 44, 3) := by decide +kernel
theorem dX2_sendsIn_10 : decode cX2_sendsIn 10 = .ok (.iaload, 1) := by decide +kernel
theorem dX2_sendsIn_11 : decode cX2_sendsIn 11 = .ok (.invokestatic 69, 3) := by decide +kernel
theorem dX2_sendsIn_14 : decode cX2_sendsIn 14 = .ok (.isub, 1) := by decide +kernel
theorem dX2_sendsIn_15 : decode cX2_sendsIn 15 = .ok (.iastore, 1) := by decide +kernel
theorem dX2_sendsIn_16 : decode cX2_sendsIn 16 = .ok (.aload_n 0, 1) := by decide +kernel
theorem dX2_sendsIn_17 : decode cX2_sendsIn 17 = .ok (.iload_n 1, 1) := by decide +kernel
theorem dX2_sendsIn_18 : decode cX2_sendsIn 18 = .ok (.iconst 3, 1) := by decide +kernel
theorem dX2_sendsIn_19 : decode cX2_sendsIn 19 = .ok (.invokestatic 44, 3) := by decide +kernel
theorem dX2_sendsIn_22 : decode cX2_sendsIn 22 = .ok (.iconst 1, 1) := by decide +kernel
theorem dX2_sendsIn_23 : decode cX2_sendsIn 23 = .ok (.iastore, 1) := by decide +kernel
theorem dX2_sendsIn_24 : decode cX2_sendsIn 24 = .ok (.aload_n 0, 1) := by decide +kernel
theorem dX2_sendsIn_25 : decode cX2_sendsIn 25 = .ok (.iload_n 1, 1) := by decide +kernel
theorem dX2_sendsIn_26 : decode cX2_sendsIn 26 = .ok (.iload_n 2, 1) := by decide +kernel
theorem dX2_sendsIn_27 : decode cX2_sendsIn 27 = .ok (.invokestatic 72, 3) := by decide +kernel
theorem dX2_sendsIn_30 : decode cX2_sendsIn 30 = .ok (.return_, 1) := by decide +kernel
set_option maxRecDepth 20000 in
theorem ggX2_nextOf_X2_canGo : GoodIn wsX2_nextOf wsX2_canGo := goodIn_r _ [4, 5, 6, 3, 7, 8, 9, 10] (by decide +kernel) (by decide +kernel)
set_option maxRecDepth 20000 in
theorem gX2_nextOf_X2_canGo : GoodIn wsX2_nextOf (va_wsS RX2 76 yX2_canGo wsX2_canGo) := goodIn_app (goodIn_of _ (by decide +kernel)) ggX2_nextOf_X2_canGo
theorem dX2_nextOf_0 : decode cX2_nextOf 0 = .ok (.iconst 0, 1) := by decide +kernel
theorem dX2_nextOf_1 : decode cX2_nextOf 1 = .ok (.istore_n 1, 1) := by decide +kernel
theorem dX2_nextOf_2 : decode cX2_nextOf 2 = .ok (.iload_n 1, 1) := by decide +kernel
theorem dX2_nextOf_3 : decode cX2_nextOf 3 = .ok (.aload_n 0, 1) := by decide +kernel
theorem dX2_nextOf_4 : decode cX2_nextOf 4 = .ok (.iconst 0, 1) := by decide +kernel
theorem dX2_nextOf_5 : decode cX2_nextOf 5 = .ok (.iaload, 1) := by decide +kernel
theorem dX2_nextOf_6 : decode cX2_nextOf 6 = .ok (.if_icmp .ge 19, 3) := by decide +kernel
theorem dX2_nextOf_9 : decode cX2_nextOf 9 = .ok (.aload_n 0, 1) := by decide +kernel
theorem dX2_nextOf_10 : decode cX2_nextOf 10 = .ok (.iload_n 1, 1) := by decide +kernel
theorem dX2_nextOf_11 : decode cX2_nextOf 11 = .ok (.invokestatic 76, 3) := by decide +kernel
theorem dX2_nextOf_14 : decode cX2_nextOf 14 = .ok (.ifCond .eq 5, 3) := by decide +kernel
theorem dX2_nextOf_17 : decode cX2_nextOf 17 = .ok (.iload_n 1, 1) := by decide +kernel
theorem dX2_nextOf_18 : decode cX2_nextOf 18 = .ok (.ireturn, 1) := by decide +kernel
theorem dX2_nextOf_19 : decode cX2_nextOf 19 = .ok (.iinc 1 1, 3) := by decide +kernel
theorem dX2_nextOf_22 : decode cX2_nextOf 22 = .ok (.goto (-20), 3) := by decide +kernel
theorem dX2_nextOf_25 : decode cX2_nextOf 25 = .ok (.bipush (-9), 2) := by decide +kernel
theorem dX2_nextOf_27 : decode cX2_nextOf 27 = .ok (.ireturn, 1) := by decide +kernel
set_option maxRecDepth 20000 in
theorem ggX2_night_X2_ofP : GoodIn wsX2_night wsX2_ofP := goodIn_r _ [4] (by decide +kernel) (by decide +kernel)
set_option maxRecDepth 20000 in
theorem gX2_night_X2_ofP : GoodIn wsX2_night (va_wsS RX2 48 yX2_ofP wsX2_ofP) := goodIn_app (goodIn_of _ (by decide +kernel)) ggX2_night_X2_ofP
set_option maxRecDepth 20000 in
theorem ggX2_night_X2_nextOf : GoodIn wsX2_night wsX2_nextOf := goodIn_r _ [7, 8, 9, 3, 10, 11, 12, 13, 14, 15, 16] (by decide +kernel) (by decide +kernel)
set_option maxRecDepth 20000 in
theorem gX2_night_X2_nextOf : GoodIn wsX2_night (va_wsS RX2 80 yX2_nextOf wsX2_nextOf) := goodIn_app (goodIn_of _ (by decide +kernel)) ggX2_night_X2_nextOf
set_option maxRecDepth 20000 in
theorem ggX2_night_X2_sendsIn : GoodIn wsX2_night wsX2_sendsIn := goodIn_r _ [19, 11, 12, 3, 13, 14, 15, 16, 20, 21, 22, 23, 24, 25, 26, 27, 28, 1, 2, 4, 29, 30, 31, 32, 33, 34, 35, 36, 37] (by decide +kernel) (by decide +kernel)
set_option maxRecDepth 20000 in
theorem gX2_night_X2_sendsIn : GoodIn wsX2_night (va_wsS RX2 84 yX2_sendsIn wsX2_sendsIn) := goodIn_app (goodIn_of _ (by decide +kernel)) ggX2_night_X2_sendsIn
theorem dX2_night_0 : decode cX2_night 0 = .ok (.aload_n 0, 1) := by decide +kernel
theorem dX2_night_1 : decode cX2_night 1 = .ok (.iconst 2, 1) := by decide +kernel
theorem dX2_night_2 : decode cX2_night 2 = .ok (.dup2, 1) := by decide +kernel
theorem dX2_night_3 : decode cX2_night 3 = .ok (.iaload, 1) := by decide +kernel
theorem dX2_night_4 : decode cX2_night 4 = .ok (.iconst 1, 1) := by decide +kernel
theorem dX2_night_5 : decode cX2_night 5 = .ok (.iadd, 1) := by decide +kernel
theorem dX2_night_6 : decode cX2_night 6 = .ok (.iastore, 1) := by decide +kernel
theorem dX2_night_7 : decode cX2_night 7 = .ok (.iconst 0, 1) := by decide +kernel
theorem dX2_night_8 : decode cX2_night 8 = .ok (.istore_n 2, 1) := by decide +kernel
theorem dX2_night_9 : decode cX2_night 9 = .ok (.iload_n 2, 1) := by decide +kernel
theorem dX2_night_10 : decode cX2_night 10 = .ok (.aload_n 0, 1) := by decide +kernel
theorem dX2_night_11 : decode cX2_night 11 = .ok (.iconst 1, 1) := by decide +kernel
theorem dX2_night_12 : decode cX2_night 12 = .ok (.iaload, 1) := by decide +kernel
theorem dX2_night_13 : decode cX2_night 13 = .ok (.if_icmp .ge 56, 3) := by decide +kernel
theorem dX2_night_16 : decode cX2_night 16 = .ok (.iconst 0, 1) := by decide +kernel
theorem dX2_night_17 : decode cX2_night 17 = .ok (.istore_n 3, 1) := by decide +kernel
theorem dX2_night_18 : decode cX2_night 18 = .ok (.iload_n 3, 1) := by decide +kernel
theorem dX2_night_19 : decode cX2_night 19 = .ok (.bipush 6, 2) := by decide +kernel
theorem dX2_night_21 : decode cX2_night 21 = .ok (.if_icmp .ge 42, 3) := by decide +kernel
theorem dX2_night_24 : decode cX2_night 24 = .ok (.iload_n 2, 1) := by decide +kernel
theorem dX2_night_25 : decode cX2_night 25 = .ok (.iconst 2, 1) := by decide +kernel
theorem dX2_night_26 : decode cX2_night 26 = .ok (.iload_n 3, 1) := by decide +kernel
theorem dX2_night_27 : decode cX2_night 27 = .ok (.iadd, 1) := by decide +kernel
theorem dX2_night_28 : decode cX2_night 28 = .ok (.invokestatic 48, 3) := by decide +kernel
theorem dX2_night_31 : decode cX2_night 31 = .ok (.istore 4, 2) := by decide +kernel
theorem dX2_night_33 : decode cX2_night 33 = .ok (.aload_n 0, 1) := by decide +kernel
theorem dX2_night_34 : decode cX2_night 34 = .ok (.iload 4, 2) := by decide +kernel
theorem dX2_night_36 : decode cX2_night 36 = .ok (.iaload, 1) := by decide +kernel
theorem dX2_night_37 : decode cX2_night 37 = .ok (.ifCond .le 20, 3) := by decide +kernel
theorem dX2_night_40 : decode cX2_night 40 = .ok (.aload_n 0, 1) := by decide +kernel
theorem dX2_night_41 : decode cX2_night 41 = .ok (.iload 4, 2) := by decide +kernel
theorem dX2_night_43 : decode cX2_night 43 = .ok (.iaload, 1) := by decide +kernel
theorem dX2_night_44 : decode cX2_night 44 = .ok (.bipush 99, 2) := by decide +kernel
theorem dX2_night_46 : decode cX2_night 46 = .ok (.if_icmp .ge 11, 3) := by decide +kernel
theorem dX2_night_49 : decode cX2_night 49 = .ok (.aload_n 0, 1) := by decide +kernel
theorem dX2_night_50 : decode cX2_night 50 = .ok (.iload 4, 2) := by decide +kernel
theorem dX2_night_52 : decode cX2_night 52 = .ok (.dup2, 1) := by decide +kernel
theorem dX2_night_53 : decode cX2_night 53 = .ok (.iaload, 1) := by decide +kernel
theorem dX2_night_54 : decode cX2_night 54 = .ok (.iconst 1, 1) := by decide +kernel
theorem dX2_night_55 : decode cX2_night 55 = .ok (.isub, 1) := by decide +kernel
theorem dX2_night_56 : decode cX2_night 56 = .ok (.iastore, 1) := by decide +kernel
theorem dX2_night_57 : decode cX2_night 57 = .ok (.iinc 3 1, 3) := by decide +kernel
theorem dX2_night_60 : decode cX2_night 60 = .ok (.goto (-42), 3) := by decide +kernel
theorem dX2_night_63 : decode cX2_night 63 = .ok (.iinc 2 1, 3) := by decide +kernel
theorem dX2_night_66 : decode cX2_night 66 = .ok (.goto (-57), 3) := by decide +kernel
theorem dX2_night_69 : decode cX2_night 69 = .ok (.aload_n 0, 1) := by decide +kernel
theorem dX2_night_70 : decode cX2_night 70 = .ok (.invokestatic 80, 3) := by decide +kernel
theorem dX2_night_73 : decode cX2_night 73 = .ok (.istore_n 2, 1) := by decide +kernel
theorem dX2_night_74 : decode cX2_night 74 = .ok (.iload_n 2, 1) := by decide +kernel
theorem dX2_night_75 : decode cX2_night 75 = .ok (.ifCond .lt 9, 3) := by decide +kernel
theorem dX2_night_78 : decode cX2_night 78 = .ok (.aload_n 0, 1) := by decide +kernel
theorem dX2_night_79 : decode cX2_night 79 = .ok (.iload_n 2, 1) := by decide +kernel
theorem dX2_night_80 : decode cX2_night 80 = .ok (.iload_n 1, 1) := by decide +kernel
theorem dX2_night_81 : decode cX2_night 81 = .ok (.invokestatic 84, 3) := by decide +kernel
theorem dX2_night_84 : decode cX2_night 84 = .ok (.return_, 1) := by decide +kernel
set_option maxRecDepth 20000 in
theorem ggX2_nightsOn_X2_night : GoodIn wsX2_nightsOn wsX2_night := goodIn_r _ [4, 5, 6, 3, 7, 8, 9, 10, 11, 12, 13, 14, 15, 16, 17, 18, 19, 20, 21, 22, 23, 24, 25, 26, 27, 28, 29, 30, 31, 32, 33, 34, 35, 36, 37, 38, 39, 40] (by decide +kernel) (by decide +kernel)
set_option maxRecDepth 20000 in
theorem gX2_nightsOn_X2_night : GoodIn wsX2_nightsOn (va_wsS RX2 87 yX2_night wsX2_night) := goodIn_app (goodIn_of _ (by decide +kernel)) ggX2_nightsOn_X2_night
theorem dX2_nightsOn_0 : decode cX2_nightsOn 0 = .ok (.iconst 0, 1) := by decide +kernel
theorem dX2_nightsOn_1 : decode cX2_nightsOn 1 = .ok (.istore_n 3, 1) := by decide +kernel
theorem dX2_nightsOn_2 : decode cX2_nightsOn 2 = .ok (.iload_n 3, 1) := by decide +kernel
theorem dX2_nightsOn_3 : decode cX2_nightsOn 3 = .ok (.iload_n 1, 1) := by decide +kernel
theorem dX2_nightsOn_4 : decode cX2_nightsOn 4 = .ok (.if_icmp .ge 14, 3) := by decide +kernel
theorem dX2_nightsOn_7 : decode cX2_nightsOn 7 = .ok (.aload_n 0, 1) := by decide +kernel
theorem dX2_nightsOn_8 : decode cX2_nightsOn 8 = .ok (.iload_n 2, 1) := by decide +kernel
theorem dX2_nightsOn_9 : decode cX2_nightsOn 9 = .ok (.invokestatic 87, 3) := by decide +kernel
theorem dX2_nightsOn_12 : decode cX2_nightsOn 12 = .ok (.iinc 3 1, 3) := by decide +kernel
theorem dX2_nightsOn_15 : decode cX2_nightsOn 15 = .ok (.goto (-13), 3) := by decide +kernel
theorem dX2_nightsOn_18 : decode cX2_nightsOn 18 = .ok (.return_, 1) := by decide +kernel
set_option maxRecDepth 20000 in
theorem ggX2_wordsOf_X2_ofP : GoodIn wsX2_wordsOf wsX2_ofP := goodIn_r _ [4] (by decide +kernel) (by decide +kernel)
set_option maxRecDepth 20000 in
theorem gX2_wordsOf_X2_ofP : GoodIn wsX2_wordsOf (va_wsS RX2 48 yX2_ofP wsX2_ofP) := goodIn_app (goodIn_of _ (by decide +kernel)) ggX2_wordsOf_X2_ofP
theorem dX2_wordsOf_0 : decode cX2_wordsOf 0 = .ok (.iconst 0, 1) := by decide +kernel
theorem dX2_wordsOf_1 : decode cX2_wordsOf 1 = .ok (.istore_n 2, 1) := by decide +kernel
theorem dX2_wordsOf_2 : decode cX2_wordsOf 2 = .ok (.iconst 0, 1) := by decide +kernel
theorem dX2_wordsOf_3 : decode cX2_wordsOf 3 = .ok (.istore_n 3, 1) := by decide +kernel
theorem dX2_wordsOf_4 : decode cX2_wordsOf 4 = .ok (.iload_n 3, 1) := by decide +kernel
theorem dX2_wordsOf_5 : decode cX2_wordsOf 5 = .ok (.bipush 6, 2) := by decide +kernel
theorem dX2_wordsOf_7 : decode cX2_wordsOf 7 = .ok (.if_icmp .ge 31, 3) := by decide +kernel
theorem dX2_wordsOf_10 : decode cX2_wordsOf 10 = .ok (.iload_n 2, 1) := by decide +kernel
theorem dX2_wordsOf_11 : decode cX2_wordsOf 11 = .ok (.aload_n 0, 1) := by decide +kernel
theorem dX2_wordsOf_12 : decode cX2_wordsOf 12 = .ok (.iload_n 1, 1) := by decide +kernel
theorem dX2_wordsOf_13 : decode cX2_wordsOf 13 = .ok (.iconst 2, 1) := by decide +kernel
theorem dX2_wordsOf_14 : decode cX2_wordsOf 14 = .ok (.iload_n 3, 1) := by decide +kernel
theorem dX2_wordsOf_15 : decode cX2_wordsOf 15 = .ok (.iadd, 1) := by decide +kernel
theorem dX2_wordsOf_16 : decode cX2_wordsOf 16 = .ok (.invokestatic 48, 3) := by decide +kernel
theorem dX2_wordsOf_19 : decode cX2_wordsOf 19 = .ok (.iaload, 1) := by decide +kernel
theorem dX2_wordsOf_20 : decode cX2_wordsOf 20 = .ok (.ifCond .le 9, 3) := by decide +kernel
theorem dX2_wordsOf_23 : decode cX2_wordsOf 23 = .ok (.iconst 1, 1) := by decide +kernel
theorem dX2_wordsOf_24 : decode cX2_wordsOf 24 = .ok (.iload_n 3, 1) := by decide +kernel
theorem dX2_wordsOf_25 : decode cX2_wordsOf 25 = .ok (.ishl, 1) := by decide +kernel
theorem dX2_wordsOf_26 : decode cX2_wordsOf 26 = .ok (.goto 4, 3) := by decide +kernel
theorem dX2_wordsOf_29 : decode cX2_wordsOf 29 = .ok (.iconst 0, 1) := by decide +kernel
theorem dX2_wordsOf_30 : decode cX2_wordsOf 30 = .ok (.ior, 1) := by decide +kernel
theorem dX2_wordsOf_31 : decode cX2_wordsOf 31 = .ok (.istore_n 2, 1) := by decide +kernel
theorem dX2_wordsOf_32 : decode cX2_wordsOf 32 = .ok (.iinc 3 1, 3) := by decide +kernel
theorem dX2_wordsOf_35 : decode cX2_wordsOf 35 = .ok (.goto (-31), 3) := by decide +kernel
theorem dX2_wordsOf_38 : decode cX2_wordsOf 38 = .ok (.iload_n 2, 1) := by decide +kernel
theorem dX2_wordsOf_39 : decode cX2_wordsOf 39 = .ok (.ireturn, 1) := by decide +kernel
set_option maxRecDepth 20000 in
theorem ggX2_allWords_X2_wordsOf : GoodIn wsX2_allWords wsX2_wordsOf := goodIn_r _ [4, 5, 6, 3, 7] (by decide +kernel) (by decide +kernel)
set_option maxRecDepth 20000 in
theorem gX2_allWords_X2_wordsOf : GoodIn wsX2_allWords (va_wsS RX2 91 yX2_wordsOf wsX2_wordsOf) := goodIn_app (goodIn_of _ (by decide +kernel)) ggX2_allWords_X2_wordsOf
set_option maxRecDepth 20000 in
theorem ggX2_allWords_X2_bits : GoodIn wsX2_allWords wsX2_bits := goodIn_r _ [10] (by decide +kernel) (by decide +kernel)
set_option maxRecDepth 20000 in
theorem gX2_allWords_X2_bits : GoodIn wsX2_allWords (va_wsS RX2 94 yX2_bits wsX2_bits) := goodIn_app (goodIn_of _ (by decide +kernel)) ggX2_allWords_X2_bits
theorem dX2_allWords_0 : decode cX2_allWords 0 = .ok (.iconst 0, 1) := by decide +kernel
theorem dX2_allWords_1 : decode cX2_allWords 1 = .ok (.istore_n 1, 1) := by decide +kernel
theorem dX2_allWords_2 : decode cX2_allWords 2 = .ok (.iconst 0, 1) := by decide +kernel
theorem dX2_allWords_3 : decode cX2_allWords 3 = .ok (.istore_n 2, 1) := by decide +kernel
theorem dX2_allWords_4 : decode cX2_allWords 4 = .ok (.iload_n 2, 1) := by decide +kernel
theorem dX2_allWords_5 : decode cX2_allWords 5 = .ok (.aload_n 0, 1) := by decide +kernel
theorem dX2_allWords_6 : decode cX2_allWords 6 = .ok (.iconst 1, 1) := by decide +kernel
theorem dX2_allWords_7 : decode cX2_allWords 7 = .ok (.iaload, 1) := by decide +kernel
theorem dX2_allWords_8 : decode cX2_allWords 8 = .ok (.if_icmp .ge 20, 3) := by decide +kernel
theorem dX2_allWords_11 : decode cX2_allWords 11 = .ok (.iload_n 1, 1) := by decide +kernel
theorem dX2_allWords_12 : decode cX2_allWords 12 = .ok (.aload_n 0, 1) := by decide +kernel
theorem dX2_allWords_13 : decode cX2_allWords 13 = .ok (.iload_n 2, 1) := by decide +kernel
theorem dX2_allWords_14 : decode cX2_allWords 14 = .ok (.invokestatic 91, 3) := by decide +kernel
theorem dX2_allWords_17 : decode cX2_allWords 17 = .ok (.invokestatic 94, 3) := by decide +kernel
theorem dX2_allWords_20 : decode cX2_allWords 20 = .ok (.iadd, 1) := by decide +kernel
theorem dX2_allWords_21 : decode cX2_allWords 21 = .ok (.istore_n 1, 1) := by decide +kernel
theorem dX2_allWords_22 : decode cX2_allWords 22 = .ok (.iinc 2 1, 3) := by decide +kernel
theorem dX2_allWords_25 : decode cX2_allWords 25 = .ok (.goto (-21), 3) := by decide +kernel
theorem dX2_allWords_28 : decode cX2_allWords 28 = .ok (.iload_n 1, 1) := by decide +kernel
theorem dX2_allWords_29 : decode cX2_allWords 29 = .ok (.ireturn, 1) := by decide +kernel
set_option maxRecDepth 20000 in
theorem ggX2_wholeOnes_X2_wordsOf : GoodIn wsX2_wholeOnes wsX2_wordsOf := goodIn_r _ [4, 5, 6, 3, 7] (by decide +kernel) (by decide +kernel)
set_option maxRecDepth 20000 in
theorem gX2_wholeOnes_X2_wordsOf : GoodIn wsX2_wholeOnes (va_wsS RX2 91 yX2_wordsOf wsX2_wordsOf) := goodIn_app (goodIn_of _ (by decide +kernel)) ggX2_wholeOnes_X2_wordsOf
theorem dX2_wholeOnes_0 : decode cX2_wholeOnes 0 = .ok (.iconst 0, 1) := by decide +kernel
theorem dX2_wholeOnes_1 : decode cX2_wholeOnes 1 = .ok (.istore_n 1, 1) := by decide +kernel
theorem dX2_wholeOnes_2 : decode cX2_wholeOnes 2 = .ok (.iconst 0, 1) := by decide +kernel
theorem dX2_wholeOnes_3 : decode cX2_wholeOnes 3 = .ok (.istore_n 2, 1) := by decide +kernel
theorem dX2_wholeOnes_4 : decode cX2_wholeOnes 4 = .ok (.iload_n 2, 1) := by decide +kernel
theorem dX2_wholeOnes_5 : decode cX2_wholeOnes 5 = .ok (.aload_n 0, 1) := by decide +kernel
theorem dX2_wholeOnes_6 : decode cX2_wholeOnes 6 = .ok (.iconst 1, 1) := by decide +kernel
theorem dX2_wholeOnes_7 : decode cX2_wholeOnes 7 = .ok (.iaload, 1) := by decide +kernel
theorem dX2_wholeOnes_8 : decode cX2_wholeOnes 8 = .ok (.if_icmp .ge 27, 3) := by decide +kernel
theorem dX2_wholeOnes_11 : decode cX2_wholeOnes 11 = .ok (.iload_n 1, 1) := by decide +kernel
theorem dX2_wholeOnes_12 : decode cX2_wholeOnes 12 = .ok (.aload_n 0, 1) := by decide +kernel
theorem dX2_wholeOnes_13 : decode cX2_wholeOnes 13 = .ok (.iload_n 2, 1) := by decide +kernel
theorem dX2_wholeOnes_14 : decode cX2_wholeOnes 14 = .ok (.invokestatic 91, 3) := by decide +kernel
theorem dX2_wholeOnes_17 : decode cX2_wholeOnes 17 = .ok (.bipush 63, 2) := by decide +kernel
theorem dX2_wholeOnes_19 : decode cX2_wholeOnes 19 = .ok (.if_icmp .ne 7, 3) := by decide +kernel
theorem dX2_wholeOnes_22 : decode cX2_wholeOnes 22 = .ok (.iconst 1, 1) := by decide +kernel
theorem dX2_wholeOnes_23 : decode cX2_wholeOnes 23 = .ok (.goto 4, 3) := by decide +kernel
theorem dX2_wholeOnes_26 : decode cX2_wholeOnes 26 = .ok (.iconst 0, 1) := by decide +kernel
theorem dX2_wholeOnes_27 : decode cX2_wholeOnes 27 = .ok (.iadd, 1) := by decide +kernel
theorem dX2_wholeOnes_28 : decode cX2_wholeOnes 28 = .ok (.istore_n 1, 1) := by decide +kernel
theorem dX2_wholeOnes_29 : decode cX2_wholeOnes 29 = .ok (.iinc 2 1, 3) := by decide +kernel
theorem dX2_wholeOnes_32 : decode cX2_wholeOnes 32 = .ok (.goto (-28), 3) := by decide +kernel
theorem dX2_wholeOnes_35 : decode cX2_wholeOnes 35 = .ok (.iload_n 1, 1) := by decide +kernel
theorem dX2_wholeOnes_36 : decode cX2_wholeOnes 36 = .ok (.ireturn, 1) := by decide +kernel
set_option maxRecDepth 20000 in
theorem ggX2_sentIn_X2_ofR : GoodIn wsX2_sentIn wsX2_ofR := goodIn_r _ [4] (by decide +kernel) (by decide +kernel)
set_option maxRecDepth 20000 in
theorem gX2_sentIn_X2_ofR : GoodIn wsX2_sentIn (va_wsS RX2 44 yX2_ofR wsX2_ofR) := goodIn_app (goodIn_of _ (by decide +kernel)) ggX2_sentIn_X2_ofR
theorem dX2_sentIn_0 : decode cX2_sentIn 0 = .ok (.iconst 0, 1) := by decide +kernel
theorem dX2_sentIn_1 : decode cX2_sentIn 1 = .ok (.istore_n 1, 1) := by decide +kernel
theorem dX2_sentIn_2 : decode cX2_sentIn 2 = .ok (.iconst 0, 1) := by decide +kernel
theorem dX2_sentIn_3 : decode cX2_sentIn 3 = .ok (.istore_n 2, 1) := by decide +kernel
theorem dX2_sentIn_4 : decode cX2_sentIn 4 = .ok (.iload_n 2, 1) := by decide +kernel
theorem dX2_sentIn_5 : decode cX2_sentIn 5 = .ok (.aload_n 0, 1) := by decide +kernel
theorem dX2_sentIn_6 : decode cX2_sentIn 6 = .ok (.iconst 0, 1) := by decide +kernel
theorem dX2_sentIn_7 : decode cX2_sentIn 7 = .ok (.iaload, 1) := by decide +kernel
theorem dX2_sentIn_8 : decode cX2_sentIn 8 = .ok (.if_icmp .ge 21, 3) := by decide +kernel
theorem dX2_sentIn_11 : decode cX2_sentIn 11 = .ok (.iload_n 1, 1) := by decide +kernel
theorem dX2_sentIn_12 : decode cX2_sentIn 12 = .ok (.aload_n 0, 1) := by decide +kernel
theorem dX2_sentIn_13 : decode cX2_sentIn 13 = .ok (.iload_n 2, 1) := by decide +kernel
theorem dX2_sentIn_14 : decode cX2_sentIn 14 = .ok (.iconst 3, 1) := by decide +kernel
theorem dX2_sentIn_15 : decode cX2_sentIn 15 = .ok (.invokestatic 44, 3) := by decide +kernel
theorem dX2_sentIn_18 : decode cX2_sentIn 18 = .ok (.iaload, 1) := by decide +kernel
theorem dX2_sentIn_19 : decode cX2_sentIn 19 = .ok (.iload_n 2, 1) := by decide +kernel
theorem dX2_sentIn_20 : decode cX2_sentIn 20 = .ok (.ishl, 1) := by decide +kernel
theorem dX2_sentIn_21 : decode cX2_sentIn 21 = .ok (.ior, 1) := by decide +kernel
theorem dX2_sentIn_22 : decode cX2_sentIn 22 = .ok (.istore_n 1, 1) := by decide +kernel
theorem dX2_sentIn_23 : decode cX2_sentIn 23 = .ok (.iinc 2 1, 3) := by decide +kernel
theorem dX2_sentIn_26 : decode cX2_sentIn 26 = .ok (.goto (-22), 3) := by decide +kernel
theorem dX2_sentIn_29 : decode cX2_sentIn 29 = .ok (.iload_n 1, 1) := by decide +kernel
theorem dX2_sentIn_30 : decode cX2_sentIn 30 = .ok (.ireturn, 1) := by decide +kernel
set_option maxRecDepth 20000 in
theorem ggX2_letter_X2_no : GoodIn wsX2_letter wsX2_no := goodIn_r _ [7, 8, 9, 10, 11, 12, 13, 14, 15, 16, 17, 18, 19, 20, 21] (by decide +kernel) (by decide +kernel)
set_option maxRecDepth 20000 in
theorem gX2_letter_X2_no : GoodIn wsX2_letter (wsV RX2 36 RX2 yX2_no wsX2_no) := goodIn_app (goodIn_of _ (by decide +kernel)) ggX2_letter_X2_no
theorem dX2_letter_0 : decode cX2_letter 0 = .ok (.iload_n 1, 1) := by decide +kernel
theorem dX2_letter_1 : decode cX2_letter 1 = .ok (.ifCond .ge 10, 3) := by decide +kernel
theorem dX2_letter_4 : decode cX2_letter 4 = .ok (.aload_n 0, 1) := by decide +kernel
theorem dX2_letter_5 : decode cX2_letter 5 = .ok (.bipush (-4), 2) := by decide +kernel
theorem dX2_letter_7 : decode cX2_letter 7 = .ok (.invokevirtual 36, 3) := by decide +kernel
theorem dX2_letter_10 : decode cX2_letter 10 = .ok (.ireturn, 1) := by decide +kernel
theorem dX2_letter_11 : decode cX2_letter 11 = .ok (.iload_n 1, 1) := by decide +kernel
theorem dX2_letter_12 : decode cX2_letter 12 = .ok (.sipush 255, 3) := by decide +kernel
theorem dX2_letter_15 : decode cX2_letter 15 = .ok (.if_icmp .gt 12, 3) := by decide +kernel
theorem dX2_letter_18 : decode cX2_letter 18 = .ok (.aload_n 0, 1) := by decide +kernel
theorem dX2_letter_19 : decode cX2_letter 19 = .ok (.getfield 97, 3) := by decide +kernel
theorem dX2_letter_22 : decode cX2_letter 22 = .ok (.bipush 96, 2) := by decide +kernel
theorem dX2_letter_24 : decode cX2_letter 24 = .ok (.if_icmp .ne 10, 3) := by decide +kernel
theorem dX2_letter_27 : decode cX2_letter 27 = .ok (.aload_n 0, 1) := by decide +kernel
theorem dX2_letter_28 : decode cX2_letter 28 = .ok (.bipush (-6), 2) := by decide +kernel
theorem dX2_letter_30 : decode cX2_letter 30 = .ok (.invokevirtual 36, 3) := by decide +kernel
theorem dX2_letter_33 : decode cX2_letter 33 = .ok (.ireturn, 1) := by decide +kernel
theorem dX2_letter_34 : decode cX2_letter 34 = .ok (.aload_n 0, 1) := by decide +kernel
theorem dX2_letter_35 : decode cX2_letter 35 = .ok (.getfield 22, 3) := by decide +kernel
theorem dX2_letter_38 : decode cX2_letter 38 = .ok (.aload_n 0, 1) := by decide +kernel
theorem dX2_letter_39 : decode cX2_letter 39 = .ok (.getfield 97, 3) := by decide +kernel
theorem dX2_letter_42 : decode cX2_letter 42 = .ok (.iload_n 1, 1) := by decide +kernel
theorem dX2_letter_43 : decode cX2_letter 43 = .ok (.iastore, 1) := by decide +kernel
theorem dX2_letter_44 : decode cX2_letter 44 = .ok (.aload_n 0, 1) := by decide +kernel
theorem dX2_letter_45 : decode cX2_letter 45 = .ok (.dup, 1) := by decide +kernel
theorem dX2_letter_46 : decode cX2_letter 46 = .ok (.getfield 97, 3) := by decide +kernel
theorem dX2_letter_49 : decode cX2_letter 49 = .ok (.iconst 1, 1) := by decide +kernel
theorem dX2_letter_50 : decode cX2_letter 50 = .ok (.iadd, 1) := by decide +kernel
theorem dX2_letter_51 : decode cX2_letter 51 = .ok (.putfield 97, 3) := by decide +kernel
theorem dX2_letter_54 : decode cX2_letter 54 = .ok (.aload_n 0, 1) := by decide +kernel
theorem dX2_letter_55 : decode cX2_letter 55 = .ok (.getfield 97, 3) := by decide +kernel
theorem dX2_letter_58 : decode cX2_letter 58 = .ok (.ireturn, 1) := by decide +kernel
theorem dX2_here_0 : decode cX2_here 0 = .ok (.aload_n 0, 1) := by decide +kernel
theorem dX2_here_1 : decode cX2_here 1 = .ok (.getfield 101, 3) := by decide +kernel
theorem dX2_here_4 : decode cX2_here 4 = .ok (.aload_n 0, 1) := by decide +kernel
theorem dX2_here_5 : decode cX2_here 5 = .ok (.getfield 97, 3) := by decide +kernel
theorem dX2_here_8 : decode cX2_here 8 = .ok (.if_icmp .ge 15, 3) := by decide +kernel
theorem dX2_here_11 : decode cX2_here 11 = .ok (.aload_n 0, 1) := by decide +kernel
theorem dX2_here_12 : decode cX2_here 12 = .ok (.getfield 22, 3) := by decide +kernel
theorem dX2_here_15 : decode cX2_here 15 = .ok (.aload_n 0, 1) := by decide +kernel
theorem dX2_here_16 : decode cX2_here 16 = .ok (.getfield 101, 3) := by decide +kernel
theorem dX2_here_19 : decode cX2_here 19 = .ok (.iaload, 1) := by decide +kernel
theorem dX2_here_20 : decode cX2_here 20 = .ok (.goto 4, 3) := by decide +kernel
theorem dX2_here_23 : decode cX2_here 23 = .ok (.iconst (-1), 1) := by decide +kernel
theorem dX2_here_24 : decode cX2_here 24 = .ok (.ireturn, 1) := by decide +kernel
set_option maxRecDepth 20000 in
theorem ggX2_readsNumber_X2_here : GoodIn wsX2_readsNumber wsX2_here := goodIn_r _ [7, 2, 8, 9, 13, 14, 15, 16, 17, 18, 19, 20, 21, 22, 23, 24, 25] (by decide +kernel) (by decide +kernel)
set_option maxRecDepth 20000 in
theorem gX2_readsNumber_X2_here : GoodIn wsX2_readsNumber (wsV RX2 104 RX2 yX2_here wsX2_here) := goodIn_app (goodIn_of _ (by decide +kernel)) ggX2_readsNumber_X2_here
set_option maxRecDepth 20000 in
theorem ggX2_readsNumber_X2_isIn : GoodIn wsX2_readsNumber wsX2_isIn := goodIn_r _ [12] (by decide +kernel) (by decide +kernel)
set_option maxRecDepth 20000 in
theorem gX2_readsNumber_X2_isIn : GoodIn wsX2_readsNumber (va_wsS RX2 40 yX2_isIn wsX2_isIn) := goodIn_app (goodIn_of _ (by decide +kernel)) ggX2_readsNumber_X2_isIn
theorem dX2_readsNumber_0 : decode cX2_readsNumber 0 = .ok (.aload_n 0, 1) := by decide +kernel
theorem dX2_readsNumber_1 : decode cX2_readsNumber 1 = .ok (.getfield 31, 3) := by decide +kernel
theorem dX2_readsNumber_4 : decode cX2_readsNumber 4 = .ok (.iload_n 1, 1) := by decide +kernel
theorem dX2_readsNumber_5 : decode cX2_readsNumber 5 = .ok (.iconst 0, 1) := by decide +kernel
theorem dX2_readsNumber_6 : decode cX2_readsNumber 6 = .ok (.iastore, 1) := by decide +kernel
theorem dX2_readsNumber_7 : decode cX2_readsNumber 7 = .ok (.iconst 0, 1) := by decide +kernel
theorem dX2_readsNumber_8 : decode cX2_readsNumber 8 = .ok (.istore_n 3, 1) := by decide +kernel
theorem dX2_readsNumber_9 : decode cX2_readsNumber 9 = .ok (.iload_n 3, 1) := by decide +kernel
theorem dX2_readsNumber_10 : decode cX2_readsNumber 10 = .ok (.iload_n 2, 1) := by decide +kernel
theorem dX2_readsNumber_11 : decode cX2_readsNumber 11 = .ok (.if_icmp .ge 58, 3) := by decide +kernel
theorem dX2_readsNumber_14 : decode cX2_readsNumber 14 = .ok (.aload_n 0, 1) := by decide +kernel
theorem dX2_readsNumber_15 : decode cX2_readsNumber 15 = .ok (.invokevirtual 104, 3) := by decide +kernel
theorem dX2_readsNumber_18 : decode cX2_readsNumber 18 = .ok (.bipush 48, 2) := by decide +kernel
theorem dX2_readsNumber_20 : decode cX2_readsNumber 20 = .ok (.bipush 57, 2) := by decide +kernel
theorem dX2_readsNumber_22 : decode cX2_readsNumber 22 = .ok (.invokestatic 40, 3) := by decide +kernel
theorem dX2_readsNumber_25 : decode cX2_readsNumber 25 = .ok (.ifCond .ne 5, 3) := by decide +kernel
theorem dX2_readsNumber_28 : decode cX2_readsNumber 28 = .ok (.iconst 0, 1) := by decide +kernel
theorem dX2_readsNumber_29 : decode cX2_readsNumber 29 = .ok (.ireturn, 1) := by decide +kernel
theorem dX2_readsNumber_30 : decode cX2_readsNumber 30 = .ok (.aload_n 0, 1) := by decide +kernel
theorem dX2_readsNumber_31 : decode cX2_readsNumber 31 = .ok (.getfield 31, 3) := by decide +kernel
theorem dX2_readsNumber_34 : decode cX2_readsNumber 34 = .ok (.iload_n 1, 1) := by decide +kernel
theorem dX2_readsNumber_35 : decode cX2_readsNumber 35 = .ok (.bipush 10, 2) := by decide +kernel
theorem dX2_readsNumber_37 : decode cX2_readsNumber 37 = .ok (.aload_n 0, 1) := by decide +kernel
theorem dX2_readsNumber_38 : decode cX2_readsNumber 38 = .ok (.getfield 31, 3) := by decide +kernel
theorem dX2_readsNumber_41 : decode cX2_readsNumber 41 = .ok (.iload_n 1, 1) := by decide +kernel
theorem dX2_readsNumber_42 : decode cX2_readsNumber 42 = .ok (.iaload, 1) := by decide +kernel
theorem dX2_readsNumber_43 : decode cX2_readsNumber 43 = .ok (.imul, 1) := by decide +kernel
theorem dX2_readsNumber_44 : decode cX2_readsNumber 44 = .ok (.aload_n 0, 1) := by decide +kernel
theorem dX2_readsNumber_45 : decode cX2_readsNumber 45 = .ok (.invokevirtual 104, 3) := by decide +kernel
theorem dX2_readsNumber_48 : decode cX2_readsNumber 48 = .ok (.iadd, 1) := by decide +kernel
theorem dX2_readsNumber_49 : decode cX2_readsNumber 49 = .ok (.bipush 48, 2) := by decide +kernel
theorem dX2_readsNumber_51 : decode cX2_readsNumber 51 = .ok (.isub, 1) := by decide +kernel
theorem dX2_readsNumber_52 : decode cX2_readsNumber 52 = .ok (.iastore, 1) := by decide +kernel
theorem dX2_readsNumber_53 : decode cX2_readsNumber 53 = .ok (.aload_n 0, 1) := by decide +kernel
theorem dX2_readsNumber_54 : decode cX2_readsNumber 54 = .ok (.dup, 1) := by decide +kernel
theorem dX2_readsNumber_55 : decode cX2_readsNumber 55 = .ok (.getfield 101, 3) := by decide +kernel
theorem dX2_readsNumber_58 : decode cX2_readsNumber 58 = .ok (.iconst 1, 1) := by decide +kernel
theorem dX2_readsNumber_59 : decode cX2_readsNumber 59 = .ok (.iadd, 1) := by decide +kernel
theorem dX2_readsNumber_60 : decode cX2_readsNumber 60 = .ok (.putfield 101, 3) := by decide +kernel
theorem dX2_readsNumber_63 : decode cX2_readsNumber 63 = .ok (.iinc 3 1, 3) := by decide +kernel
theorem dX2_readsNumber_66 : decode cX2_readsNumber 66 = .ok (.goto (-57), 3) := by decide +kernel
theorem dX2_readsNumber_69 : decode cX2_readsNumber 69 = .ok (.iconst 1, 1) := by decide +kernel
theorem dX2_readsNumber_70 : decode cX2_readsNumber 70 = .ok (.ireturn, 1) := by decide +kernel
theorem dX2_kindBy_0 : decode cX2_kindBy 0 = .ok (.iload_n 0, 1) := by decide +kernel
theorem dX2_kindBy_1 : decode cX2_kindBy 1 = .ok (.tableswitch 91 100 115 #[85, 91, 91, 83, 91, 91, 91, 91, 89, 91, 91, 91, 91, 87, 79, 81], 79) := by decide +kernel
theorem dX2_kindBy_80 : decode cX2_kindBy 80 = .ok (.iconst 0, 1) := by decide +kernel
theorem dX2_kindBy_81 : decode cX2_kindBy 81 = .ok (.ireturn, 1) := by decide +kernel
theorem dX2_kindBy_82 : decode cX2_kindBy 82 = .ok (.iconst 1, 1) := by decide +kernel
theorem dX2_kindBy_83 : decode cX2_kindBy 83 = .ok (.ireturn, 1) := by decide +kernel
theorem dX2_kindBy_84 : decode cX2_kindBy 84 = .ok (.iconst 2, 1) := by decide +kernel
theorem dX2_kindBy_85 : decode cX2_kindBy 85 = .ok (.ireturn, 1) := by decide +kernel
theorem dX2_kindBy_86 : decode cX2_kindBy 86 = .ok (.iconst 3, 1) := by decide +kernel
theorem dX2_kindBy_87 : decode cX2_kindBy 87 = .ok (.ireturn, 1) := by decide +kernel
theorem dX2_kindBy_88 : decode cX2_kindBy 88 = .ok (.iconst 4, 1) := by decide +kernel
theorem dX2_kindBy_89 : decode cX2_kindBy 89 = .ok (.ireturn, 1) := by decide +kernel
theorem dX2_kindBy_90 : decode cX2_kindBy 90 = .ok (.iconst 5, 1) := by decide +kernel
theorem dX2_kindBy_91 : decode cX2_kindBy 91 = .ok (.ireturn, 1) := by decide +kernel
theorem dX2_kindBy_92 : decode cX2_kindBy 92 = .ok (.bipush (-9), 2) := by decide +kernel
theorem dX2_kindBy_94 : decode cX2_kindBy 94 = .ok (.ireturn, 1) := by decide +kernel
set_option maxRecDepth 20000 in
theorem ggX2_readsKind_X2_here : GoodIn wsX2_readsKind wsX2_here := goodIn_r _ [7, 2, 8, 9, 13, 14, 15, 16, 17, 18, 19, 20, 21, 22, 23, 24, 25] (by decide +kernel) (by decide +kernel)
set_option maxRecDepth 20000 in
theorem gX2_readsKind_X2_here : GoodIn wsX2_readsKind (wsV RX2 104 RX2 yX2_here wsX2_here) := goodIn_app (goodIn_of _ (by decide +kernel)) ggX2_readsKind_X2_here
set_option maxRecDepth 20000 in
theorem ggX2_readsKind_X2_kindBy : GoodIn wsX2_readsKind wsX2_kindBy := goodIn_r _ [12] (by decide +kernel) (by decide +kernel)
set_option maxRecDepth 20000 in
theorem gX2_readsKind_X2_kindBy : GoodIn wsX2_readsKind (va_wsS RX2 108 yX2_kindBy wsX2_kindBy) := goodIn_app (goodIn_of _ (by decide +kernel)) ggX2_readsKind_X2_kindBy
theorem dX2_readsKind_0 : decode cX2_readsKind 0 = .ok (.aload_n 0, 1) := by decide +kernel
theorem dX2_readsKind_1 : decode cX2_readsKind 1 = .ok (.getfield 31, 3) := by decide +kernel
theorem dX2_readsKind_4 : decode cX2_readsKind 4 = .ok (.iconst 0, 1) := by decide +kernel
theorem dX2_readsKind_5 : decode cX2_readsKind 5 = .ok (.aload_n 0, 1) := by decide +kernel
theorem dX2_readsKind_6 : decode cX2_readsKind 6 = .ok (.invokevirtual 104, 3) := by decide +kernel
theorem dX2_readsKind_9 : decode cX2_readsKind 9 = .ok (.invokestatic 108, 3) := by decide +kernel
theorem dX2_readsKind_12 : decode cX2_readsKind 12 = .ok (.iastore, 1) := by decide +kernel
theorem dX2_readsKind_13 : decode cX2_readsKind 13 = .ok (.aload_n 0, 1) := by decide +kernel
theorem dX2_readsKind_14 : decode cX2_readsKind 14 = .ok (.dup, 1) := by decide +kernel
theorem dX2_readsKind_15 : decode cX2_readsKind 15 = .ok (.getfield 101, 3) := by decide +kernel
theorem dX2_readsKind_18 : decode cX2_readsKind 18 = .ok (.aload_n 0, 1) := by decide +kernel
theorem dX2_readsKind_19 : decode cX2_readsKind 19 = .ok (.getfield 31, 3) := by decide +kernel
theorem dX2_readsKind_22 : decode cX2_readsKind 22 = .ok (.iconst 0, 1) := by decide +kernel
theorem dX2_readsKind_23 : decode cX2_readsKind 23 = .ok (.iaload, 1) := by decide +kernel
theorem dX2_readsKind_24 : decode cX2_readsKind 24 = .ok (.ifCond .ge 7, 3) := by decide +kernel
theorem dX2_readsKind_27 : decode cX2_readsKind 27 = .ok (.iconst 0, 1) := by decide +kernel
theorem dX2_readsKind_28 : decode cX2_readsKind 28 = .ok (.goto 4, 3) := by decide +kernel
theorem dX2_readsKind_31 : decode cX2_readsKind 31 = .ok (.iconst 1, 1) := by decide +kernel
theorem dX2_readsKind_32 : decode cX2_readsKind 32 = .ok (.iadd, 1) := by decide +kernel
theorem dX2_readsKind_33 : decode cX2_readsKind 33 = .ok (.putfield 101, 3) := by decide +kernel
theorem dX2_readsKind_36 : decode cX2_readsKind 36 = .ok (.aload_n 0, 1) := by decide +kernel
theorem dX2_readsKind_37 : decode cX2_readsKind 37 = .ok (.getfield 31, 3) := by decide +kernel
theorem dX2_readsKind_40 : decode cX2_readsKind 40 = .ok (.iconst 0, 1) := by decide +kernel
theorem dX2_readsKind_41 : decode cX2_readsKind 41 = .ok (.iaload, 1) := by decide +kernel
theorem dX2_readsKind_42 : decode cX2_readsKind 42 = .ok (.ifCond .lt 7, 3) := by decide +kernel
theorem dX2_readsKind_45 : decode cX2_readsKind 45 = .ok (.iconst 1, 1) := by decide +kernel
theorem dX2_readsKind_46 : decode cX2_readsKind 46 = .ok (.goto 4, 3) := by decide +kernel
theorem dX2_readsKind_49 : decode cX2_readsKind 49 = .ok (.iconst 0, 1) := by decide +kernel
theorem dX2_readsKind_50 : decode cX2_readsKind 50 = .ok (.ireturn, 1) := by decide +kernel
set_option maxRecDepth 20000 in
theorem ggX2_readsStatement_X2_here : GoodIn wsX2_readsStatement wsX2_here := goodIn_r _ [6, 1, 7, 8, 24, 25, 26, 27, 28, 29, 30, 31, 32, 33, 34, 35, 36] (by decide +kernel) (by decide +kernel)
set_option maxRecDepth 20000 in
theorem gX2_readsStatement_X2_here : GoodIn wsX2_readsStatement (wsV RX2 104 RX2 yX2_here wsX2_here) := goodIn_app (goodIn_of _ (by decide +kernel)) ggX2_readsStatement_X2_here
set_option maxRecDepth 20000 in
theorem ggX2_readsStatement_X2_readsKind : GoodIn wsX2_readsStatement wsX2_readsKind := goodIn_r _ [12, 13, 1, 2, 3, 4, 5, 6, 7, 8, 14, 15, 16, 24, 25, 26, 27, 28, 29, 30, 31, 32, 33, 34, 35, 36] (by decide +kernel) (by decide +kernel)
set_option maxRecDepth 20000 in
theorem gX2_readsStatement_X2_readsKind : GoodIn wsX2_readsStatement (wsV RX2 111 RX2 yX2_readsKind wsX2_readsKind) := goodIn_app (goodIn_of _ (by decide +kernel)) ggX2_readsStatement_X2_readsKind
set_option maxRecDepth 20000 in
theorem ggX2_readsStatement_X2_readsNumber : GoodIn wsX2_readsStatement wsX2_readsNumber := goodIn_r _ [20, 13, 1, 2, 3, 4, 5, 6, 7, 8, 21, 22, 23, 24, 25, 26, 27, 28, 29, 30, 31, 32, 33, 34, 35, 36] (by decide +kernel) (by decide +kernel)
set_option maxRecDepth 20000 in
theorem gX2_readsStatement_X2_readsNumber : GoodIn wsX2_readsStatement (wsV RX2 115 RX2 yX2_readsNumber wsX2_readsNumber) := goodIn_app (goodIn_of _ (by decide +kernel)) ggX2_readsStatement_X2_readsNumber
theorem dX2_readsStatement_0 : decode cX2_readsStatement 0 = .ok (.aload_n 0, 1) := by decide +kernel
theorem dX2_readsStatement_1 : decode cX2_readsStatement 1 = .ok (.invokevirtual 104, 3) := by decide +kernel
theorem dX2_readsStatement_4 : decode cX2_readsStatement 4 = .ok (.istore_n 1, 1) := by decide +kernel
theorem dX2_readsStatement_5 : decode cX2_readsStatement 5 = .ok (.aload_n 0, 1) := by decide +kernel
theorem dX2_readsStatement_6 : decode cX2_readsStatement 6 = .ok (.dup, 1) := by decide +kernel
theorem dX2_readsStatement_7 : decode cX2_readsStatement 7 = .ok (.getfield 101, 3) := by decide +kernel
theorem dX2_readsStatement_10 : decode cX2_readsStatement 10 = .ok (.iconst 1, 1) := by decide +kernel
theorem dX2_readsStatement_11 : decode cX2_readsStatement 11 = .ok (.iadd, 1) := by decide +kernel
theorem dX2_readsStatement_12 : decode cX2_readsStatement 12 = .ok (.putfield 101, 3) := by decide +kernel
theorem dX2_readsStatement_15 : decode cX2_readsStatement 15 = .ok (.iload_n 1, 1) := by decide +kernel
theorem dX2_readsStatement_16 : decode cX2_readsStatement 16 = .ok (.tableswitch 195 98 119 #[165, 195, 195, 195, 195, 175, 195, 195, 195, 195, 195, 195, 185, 195, 138, 195, 104, 165, 195, 195, 195, 165], 104) := by decide +kernel
theorem dX2_readsStatement_120 : decode cX2_readsStatement 120 = .ok (.aload_n 0, 1) := by decide +kernel
theorem dX2_readsStatement_121 : decode cX2_readsStatement 121 = .ok (.invokevirtual 111, 3) := by decide +kernel
theorem dX2_readsStatement_124 : decode cX2_readsStatement 124 = .ok (.ifCond .eq 25, 3) := by decide +kernel
theorem dX2_readsStatement_127 : decode cX2_readsStatement 127 = .ok (.aload_n 0, 1) := by decide +kernel
theorem dX2_readsStatement_128 : decode cX2_readsStatement 128 = .ok (.iconst 1, 1) := by decide +kernel
theorem dX2_readsStatement_129 : decode cX2_readsStatement 129 = .ok (.iconst 1, 1) := by decide +kernel
theorem dX2_readsStatement_130 : decode cX2_readsStatement 130 = .ok (.invokevirtual 115, 3) := by decide +kernel
theorem dX2_readsStatement_133 : decode cX2_readsStatement 133 = .ok (.ifCond .eq 16, 3) := by decide +kernel
theorem dX2_readsStatement_136 : decode cX2_readsStatement 136 = .ok (.aload_n 0, 1) := by decide +kernel
theorem dX2_readsStatement_137 : decode cX2_readsStatement 137 = .ok (.iconst 2, 1) := by decide +kernel
theorem dX2_readsStatement_138 : decode cX2_readsStatement 138 = .ok (.iconst 1, 1) := by decide +kernel
theorem dX2_readsStatement_139 : decode cX2_readsStatement 139 = .ok (.invokevirtual 115, 3) := by decide +kernel
theorem dX2_readsStatement_142 : decode cX2_readsStatement 142 = .ok (.ifCond .eq 7, 3) := by decide +kernel
theorem dX2_readsStatement_145 : decode cX2_readsStatement 145 = .ok (.iconst 1, 1) := by decide +kernel
theorem dX2_readsStatement_146 : decode cX2_readsStatement 146 = .ok (.goto 4, 3) := by decide +kernel
theorem dX2_readsStatement_149 : decode cX2_readsStatement 149 = .ok (.iconst 0, 1) := by decide +kernel
theorem dX2_readsStatement_150 : decode cX2_readsStatement 150 = .ok (.istore_n 2, 1) := by decide +kernel
theorem dX2_readsStatement_151 : decode cX2_readsStatement 151 = .ok (.goto 72, 3) := by decide +kernel
theorem dX2_readsStatement_154 : decode cX2_readsStatement 154 = .ok (.aload_n 0, 1) := by decide +kernel
theorem dX2_readsStatement_155 : decode cX2_readsStatement 155 = .ok (.iconst 0, 1) := by decide +kernel
theorem dX2_readsStatement_156 : decode cX2_readsStatement 156 = .ok (.iconst 2, 1) := by decide +kernel
theorem dX2_readsStatement_157 : decode cX2_readsStatement 157 = .ok (.invokevirtual 115, 3) := by decide +kernel
theorem dX2_readsStatement_160 : decode cX2_readsStatement 160 = .ok (.ifCond .eq 16, 3) := by decide +kernel
theorem dX2_readsStatement_163 : decode cX2_readsStatement 163 = .ok (.aload_n 0, 1) := by decide +kernel
theorem dX2_readsStatement_164 : decode cX2_readsStatement 164 = .ok (.iconst 1, 1) := by decide +kernel
theorem dX2_readsStatement_165 : decode cX2_readsStatement 165 = .ok (.iconst 1, 1) := by decide +kernel
theorem dX2_readsStatement_166 : decode cX2_readsStatement 166 = .ok (.invokevirtual 115, 3) := by decide +kernel
theorem dX2_readsStatement_169 : decode cX2_readsStatement 169 = .ok (.ifCond .eq 7, 3) := by decide +kernel
theorem dX2_readsStatement_172 : decode cX2_readsStatement 172 = .ok (.iconst 1, 1) := by decide +kernel
theorem dX2_readsStatement_173 : decode cX2_readsStatement 173 = .ok (.goto 4, 3) := by decide +kernel
theorem dX2_readsStatement_176 : decode cX2_readsStatement 176 = .ok (.iconst 0, 1) := by decide +kernel
theorem dX2_readsStatement_177 : decode cX2_readsStatement 177 = .ok (.istore_n 2, 1) := by decide +kernel
theorem dX2_readsStatement_178 : decode cX2_readsStatement 178 = .ok (.goto 45, 3) := by decide +kernel
theorem dX2_readsStatement_181 : decode cX2_readsStatement 181 = .ok (.aload_n 0, 1) := by decide +kernel
theorem dX2_readsStatement_182 : decode cX2_readsStatement 182 = .ok (.iconst 0, 1) := by decide +kernel
theorem dX2_readsStatement_183 : decode cX2_readsStatement 183 = .ok (.iconst 1, 1) := by decide +kernel
theorem dX2_readsStatement_184 : decode cX2_readsStatement 184 = .ok (.invokevirtual 115, 3) := by decide +kernel
theorem dX2_readsStatement_187 : decode cX2_readsStatement 187 = .ok (.istore_n 2, 1) := by decide +kernel
theorem dX2_readsStatement_188 : decode cX2_readsStatement 188 = .ok (.goto 35, 3) := by decide +kernel
theorem dX2_readsStatement_191 : decode cX2_readsStatement 191 = .ok (.aload_n 0, 1) := by decide +kernel
theorem dX2_readsStatement_192 : decode cX2_readsStatement 192 = .ok (.iconst 0, 1) := by decide +kernel
theorem dX2_readsStatement_193 : decode cX2_readsStatement 193 = .ok (.iconst 3, 1) := by decide +kernel
theorem dX2_readsStatement_194 : decode cX2_readsStatement 194 = .ok (.invokevirtual 115, 3) := by decide +kernel
theorem dX2_readsStatement_197 : decode cX2_readsStatement 197 = .ok (.istore_n 2, 1) := by decide +kernel
theorem dX2_readsStatement_198 : decode cX2_readsStatement 198 = .ok (.goto 25, 3) := by decide +kernel
theorem dX2_readsStatement_201 : decode cX2_readsStatement 201 = .ok (.aload_n 0, 1) := by decide +kernel
theorem dX2_readsStatement_202 : decode cX2_readsStatement 202 = .ok (.iconst 0, 1) := by decide +kernel
theorem dX2_readsStatement_203 : decode cX2_readsStatement 203 = .ok (.iconst 2, 1) := by decide +kernel
theorem dX2_readsStatement_204 : decode cX2_readsStatement 204 = .ok (.invokevirtual 115, 3) := by decide +kernel
theorem dX2_readsStatement_207 : decode cX2_readsStatement 207 = .ok (.istore_n 2, 1) := by decide +kernel
theorem dX2_readsStatement_208 : decode cX2_readsStatement 208 = .ok (.goto 15, 3) := by decide +kernel
theorem dX2_readsStatement_211 : decode cX2_readsStatement 211 = .ok (.aload_n 0, 1) := by decide +kernel
theorem dX2_readsStatement_212 : decode cX2_readsStatement 212 = .ok (.dup, 1) := by decide +kernel
theorem dX2_readsStatement_213 : decode cX2_readsStatement 213 = .ok (.getfield 101, 3) := by decide +kernel
theorem dX2_readsStatement_216 : decode cX2_readsStatement 216 = .ok (.iconst 1, 1) := by decide +kernel
theorem dX2_readsStatement_217 : decode cX2_readsStatement 217 = .ok (.isub, 1) := by decide +kernel
theorem dX2_readsStatement_218 : decode cX2_readsStatement 218 = .ok (.putfield 101, 3) := by decide +kernel
theorem dX2_readsStatement_221 : decode cX2_readsStatement 221 = .ok (.iconst 0, 1) := by decide +kernel
theorem dX2_readsStatement_222 : decode cX2_readsStatement 222 = .ok (.ireturn, 1) := by decide +kernel
theorem dX2_readsStatement_223 : decode cX2_readsStatement 223 = .ok (.iload_n 2, 1) := by decide +kernel
theorem dX2_readsStatement_224 : decode cX2_readsStatement 224 = .ok (.ifCond .eq 12, 3) := by decide +kernel
theorem dX2_readsStatement_227 : decode cX2_readsStatement 227 = .ok (.aload_n 0, 1) := by decide +kernel
theorem dX2_readsStatement_228 : decode cX2_readsStatement 228 = .ok (.invokevirtual 104, 3) := by decide +kernel
theorem dX2_readsStatement_231 : decode cX2_readsStatement 231 = .ok (.bipush 59, 2) := by decide +kernel
theorem dX2_readsStatement_233 : decode cX2_readsStatement 233 = .ok (.if_icmp .eq 5, 3) := by decide +kernel
theorem dX2_readsStatement_236 : decode cX2_readsStatement 236 = .ok (.iconst 0, 1) := by decide +kernel
theorem dX2_readsStatement_237 : decode cX2_readsStatement 237 = .ok (.ireturn, 1) := by decide +kernel
theorem dX2_readsStatement_238 : decode cX2_readsStatement 238 = .ok (.aload_n 0, 1) := by decide +kernel
theorem dX2_readsStatement_239 : decode cX2_readsStatement 239 = .ok (.dup, 1) := by decide +kernel
theorem dX2_readsStatement_240 : decode cX2_readsStatement 240 = .ok (.getfield 101, 3) := by decide +kernel
theorem dX2_readsStatement_243 : decode cX2_readsStatement 243 = .ok (.iconst 1, 1) := by decide +kernel
theorem dX2_readsStatement_244 : decode cX2_readsStatement 244 = .ok (.iadd, 1) := by decide +kernel
theorem dX2_readsStatement_245 : decode cX2_readsStatement 245 = .ok (.putfield 101, 3) := by decide +kernel
theorem dX2_readsStatement_248 : decode cX2_readsStatement 248 = .ok (.iconst 1, 1) := by decide +kernel
theorem dX2_readsStatement_249 : decode cX2_readsStatement 249 = .ok (.ireturn, 1) := by decide +kernel
set_option maxRecDepth 20000 in
theorem ggX2_addsRocket_X2_ofR : GoodIn wsX2_addsRocket wsX2_ofR := goodIn_r _ [6] (by decide +kernel) (by decide +kernel)
set_option maxRecDepth 20000 in
theorem gX2_addsRocket_X2_ofR : GoodIn wsX2_addsRocket (va_wsS RX2 44 yX2_ofR wsX2_ofR) := goodIn_app (goodIn_of _ (by decide +kernel)) ggX2_addsRocket_X2_ofR
theorem dX2_addsRocket_0 : decode cX2_addsRocket 0 = .ok (.aload_n 0, 1) := by decide +kernel
theorem dX2_addsRocket_1 : decode cX2_addsRocket 1 = .ok (.getfield 31, 3) := by decide +kernel
theorem dX2_addsRocket_4 : decode cX2_addsRocket 4 = .ok (.iconst 2, 1) := by decide +kernel
theorem dX2_addsRocket_5 : decode cX2_addsRocket 5 = .ok (.iaload, 1) := by decide +kernel
theorem dX2_addsRocket_6 : decode cX2_addsRocket 6 = .ok (.bipush 6, 2) := by decide +kernel
theorem dX2_addsRocket_8 : decode cX2_addsRocket 8 = .ok (.if_icmp .ge 14, 3) := by decide +kernel
theorem dX2_addsRocket_11 : decode cX2_addsRocket 11 = .ok (.aload_n 0, 1) := by decide +kernel
theorem dX2_addsRocket_12 : decode cX2_addsRocket 12 = .ok (.getfield 9, 3) := by decide +kernel
theorem dX2_addsRocket_15 : decode cX2_addsRocket 15 = .ok (.iconst 0, 1) := by decide +kernel
theorem dX2_addsRocket_16 : decode cX2_addsRocket 16 = .ok (.iaload, 1) := by decide +kernel
theorem dX2_addsRocket_17 : decode cX2_addsRocket 17 = .ok (.bipush 9, 2) := by decide +kernel
theorem dX2_addsRocket_19 : decode cX2_addsRocket 19 = .ok (.if_icmp .ne 5, 3) := by decide +kernel
theorem dX2_addsRocket_22 : decode cX2_addsRocket 22 = .ok (.iconst 0, 1) := by decide +kernel
theorem dX2_addsRocket_23 : decode cX2_addsRocket 23 = .ok (.ireturn, 1) := by decide +kernel
theorem dX2_addsRocket_24 : decode cX2_addsRocket 24 = .ok (.iconst 0, 1) := by decide +kernel
theorem dX2_addsRocket_25 : decode cX2_addsRocket 25 = .ok (.istore_n 1, 1) := by decide +kernel
theorem dX2_addsRocket_26 : decode cX2_addsRocket 26 = .ok (.iload_n 1, 1) := by decide +kernel
theorem dX2_addsRocket_27 : decode cX2_addsRocket 27 = .ok (.iconst 3, 1) := by decide +kernel
theorem dX2_addsRocket_28 : decode cX2_addsRocket 28 = .ok (.if_icmp .ge 30, 3) := by decide +kernel
theorem dX2_addsRocket_31 : decode cX2_addsRocket 31 = .ok (.aload_n 0, 1) := by decide +kernel
theorem dX2_addsRocket_32 : decode cX2_addsRocket 32 = .ok (.getfield 9, 3) := by decide +kernel
theorem dX2_addsRocket_35 : decode cX2_addsRocket 35 = .ok (.aload_n 0, 1) := by decide +kernel
theorem dX2_addsRocket_36 : decode cX2_addsRocket 36 = .ok (.getfield 9, 3) := by decide +kernel
theorem dX2_addsRocket_39 : decode cX2_addsRocket 39 = .ok (.iconst 0, 1) := by decide +kernel
theorem dX2_addsRocket_40 : decode cX2_addsRocket 40 = .ok (.iaload, 1) := by decide +kernel
theorem dX2_addsRocket_41 : decode cX2_addsRocket 41 = .ok (.iload_n 1, 1) := by decide +kernel
theorem dX2_addsRocket_42 : decode cX2_addsRocket 42 = .ok (.invokestatic 44, 3) := by decide +kernel
theorem dX2_addsRocket_45 : decode cX2_addsRocket 45 = .ok (.aload_n 0, 1) := by decide +kernel
theorem dX2_addsRocket_46 : decode cX2_addsRocket 46 = .ok (.getfield 31, 3) := by decide +kernel
theorem dX2_addsRocket_49 : decode cX2_addsRocket 49 = .ok (.iload_n 1, 1) := by decide +kernel
theorem dX2_addsRocket_50 : decode cX2_addsRocket 50 = .ok (.iaload, 1) := by decide +kernel
theorem dX2_addsRocket_51 : decode cX2_addsRocket 51 = .ok (.iastore, 1) := by decide +kernel
theorem dX2_addsRocket_52 : decode cX2_addsRocket 52 = .ok (.iinc 1 1, 3) := by decide +kernel
theorem dX2_addsRocket_55 : decode cX2_addsRocket 55 = .ok (.goto (-29), 3) := by decide +kernel
theorem dX2_addsRocket_58 : decode cX2_addsRocket 58 = .ok (.aload_n 0, 1) := by decide +kernel
theorem dX2_addsRocket_59 : decode cX2_addsRocket 59 = .ok (.getfield 9, 3) := by decide +kernel
theorem dX2_addsRocket_62 : decode cX2_addsRocket 62 = .ok (.aload_n 0, 1) := by decide +kernel
theorem dX2_addsRocket_63 : decode cX2_addsRocket 63 = .ok (.getfield 9, 3) := by decide +kernel
theorem dX2_addsRocket_66 : decode cX2_addsRocket 66 = .ok (.iconst 0, 1) := by decide +kernel
theorem dX2_addsRocket_67 : decode cX2_addsRocket 67 = .ok (.iaload, 1) := by decide +kernel
theorem dX2_addsRocket_68 : decode cX2_addsRocket 68 = .ok (.iconst 3, 1) := by decide +kernel
theorem dX2_addsRocket_69 : decode cX2_addsRocket 69 = .ok (.invokestatic 44, 3) := by decide +kernel
theorem dX2_addsRocket_72 : decode cX2_addsRocket 72 = .ok (.iconst 0, 1) := by decide +kernel
theorem dX2_addsRocket_73 : decode cX2_addsRocket 73 = .ok (.iastore, 1) := by decide +kernel
theorem dX2_addsRocket_74 : decode cX2_addsRocket 74 = .ok (.aload_n 0, 1) := by decide +kernel
theorem dX2_addsRocket_75 : decode cX2_addsRocket 75 = .ok (.getfield 9, 3) := by decide +kernel
theorem dX2_addsRocket_78 : decode cX2_addsRocket 78 = .ok (.iconst 0, 1) := by decide +kernel
theorem dX2_addsRocket_79 : decode cX2_addsRocket 79 = .ok (.dup2, 1) := by decide +kernel
theorem dX2_addsRocket_80 : decode cX2_addsRocket 80 = .ok (.iaload, 1) := by decide +kernel
theorem dX2_addsRocket_81 : decode cX2_addsRocket 81 = .ok (.iconst 1, 1) := by decide +kernel
theorem dX2_addsRocket_82 : decode cX2_addsRocket 82 = .ok (.iadd, 1) := by decide +kernel
theorem dX2_addsRocket_83 : decode cX2_addsRocket 83 = .ok (.iastore, 1) := by decide +kernel
theorem dX2_addsRocket_84 : decode cX2_addsRocket 84 = .ok (.iconst 1, 1) := by decide +kernel
theorem dX2_addsRocket_85 : decode cX2_addsRocket 85 = .ok (.ireturn, 1) := by decide +kernel
set_option maxRecDepth 20000 in
theorem ggX2_addsReader_X2_ofP : GoodIn wsX2_addsReader wsX2_ofP := goodIn_r _ [6] (by decide +kernel) (by decide +kernel)
set_option maxRecDepth 20000 in
theorem gX2_addsReader_X2_ofP : GoodIn wsX2_addsReader (va_wsS RX2 48 yX2_ofP wsX2_ofP) := goodIn_app (goodIn_of _ (by decide +kernel)) ggX2_addsReader_X2_ofP
theorem dX2_addsReader_0 : decode cX2_addsReader 0 = .ok (.aload_n 0, 1) := by decide +kernel
theorem dX2_addsReader_1 : decode cX2_addsReader 1 = .ok (.getfield 31, 3) := by decide +kernel
theorem dX2_addsReader_4 : decode cX2_addsReader 4 = .ok (.iconst 0, 1) := by decide +kernel
theorem dX2_addsReader_5 : decode cX2_addsReader 5 = .ok (.iaload, 1) := by decide +kernel
theorem dX2_addsReader_6 : decode cX2_addsReader 6 = .ok (.bipush 20, 2) := by decide +kernel
theorem dX2_addsReader_8 : decode cX2_addsReader 8 = .ok (.if_icmp .ge 13, 3) := by decide +kernel
theorem dX2_addsReader_11 : decode cX2_addsReader 11 = .ok (.aload_n 0, 1) := by decide +kernel
theorem dX2_addsReader_12 : decode cX2_addsReader 12 = .ok (.getfield 9, 3) := by decide +kernel
theorem dX2_addsReader_15 : decode cX2_addsReader 15 = .ok (.iconst 1, 1) := by decide +kernel
theorem dX2_addsReader_16 : decode cX2_addsReader 16 = .ok (.iaload, 1) := by decide +kernel
theorem dX2_addsReader_17 : decode cX2_addsReader 17 = .ok (.iconst 5, 1) := by decide +kernel
theorem dX2_addsReader_18 : decode cX2_addsReader 18 = .ok (.if_icmp .ne 5, 3) := by decide +kernel
theorem dX2_addsReader_21 : decode cX2_addsReader 21 = .ok (.iconst 0, 1) := by decide +kernel
theorem dX2_addsReader_22 : decode cX2_addsReader 22 = .ok (.ireturn, 1) := by decide +kernel
theorem dX2_addsReader_23 : decode cX2_addsReader 23 = .ok (.aload_n 0, 1) := by decide +kernel
theorem dX2_addsReader_24 : decode cX2_addsReader 24 = .ok (.getfield 9, 3) := by decide +kernel
theorem dX2_addsReader_27 : decode cX2_addsReader 27 = .ok (.aload_n 0, 1) := by decide +kernel
theorem dX2_addsReader_28 : decode cX2_addsReader 28 = .ok (.getfield 9, 3) := by decide +kernel
theorem dX2_addsReader_31 : decode cX2_addsReader 31 = .ok (.iconst 1, 1) := by decide +kernel
theorem dX2_addsReader_32 : decode cX2_addsReader 32 = .ok (.iaload, 1) := by decide +kernel
theorem dX2_addsReader_33 : decode cX2_addsReader 33 = .ok (.iconst 0, 1) := by decide +kernel
theorem dX2_addsReader_34 : decode cX2_addsReader 34 = .ok (.invokestatic 48, 3) := by decide +kernel
theorem dX2_addsReader_37 : decode cX2_addsReader 37 = .ok (.aload_n 0, 1) := by decide +kernel
theorem dX2_addsReader_38 : decode cX2_addsReader 38 = .ok (.getfield 31, 3) := by decide +kernel
theorem dX2_addsReader_41 : decode cX2_addsReader 41 = .ok (.iconst 0, 1) := by decide +kernel
theorem dX2_addsReader_42 : decode cX2_addsReader 42 = .ok (.iaload, 1) := by decide +kernel
theorem dX2_addsReader_43 : decode cX2_addsReader 43 = .ok (.iastore, 1) := by decide +kernel
theorem dX2_addsReader_44 : decode cX2_addsReader 44 = .ok (.aload_n 0, 1) := by decide +kernel
theorem dX2_addsReader_45 : decode cX2_addsReader 45 = .ok (.getfield 9, 3) := by decide +kernel
theorem dX2_addsReader_48 : decode cX2_addsReader 48 = .ok (.aload_n 0, 1) := by decide +kernel
theorem dX2_addsReader_49 : decode cX2_addsReader 49 = .ok (.getfield 9, 3) := by decide +kernel
theorem dX2_addsReader_52 : decode cX2_addsReader 52 = .ok (.iconst 1, 1) := by decide +kernel
theorem dX2_addsReader_53 : decode cX2_addsReader 53 = .ok (.iaload, 1) := by decide +kernel
theorem dX2_addsReader_54 : decode cX2_addsReader 54 = .ok (.iconst 1, 1) := by decide +kernel
theorem dX2_addsReader_55 : decode cX2_addsReader 55 = .ok (.invokestatic 48, 3) := by decide +kernel
theorem dX2_addsReader_58 : decode cX2_addsReader 58 = .ok (.aload_n 0, 1) := by decide +kernel
theorem dX2_addsReader_59 : decode cX2_addsReader 59 = .ok (.getfield 31, 3) := by decide +kernel
theorem dX2_addsReader_62 : decode cX2_addsReader 62 = .ok (.iconst 1, 1) := by decide +kernel
theorem dX2_addsReader_63 : decode cX2_addsReader 63 = .ok (.iaload, 1) := by decide +kernel
theorem dX2_addsReader_64 : decode cX2_addsReader 64 = .ok (.iastore, 1) := by decide +kernel
theorem dX2_addsReader_65 : decode cX2_addsReader 65 = .ok (.iconst 0, 1) := by decide +kernel
theorem dX2_addsReader_66 : decode cX2_addsReader 66 = .ok (.istore_n 1, 1) := by decide +kernel
theorem dX2_addsReader_67 : decode cX2_addsReader 67 = .ok (.iload_n 1, 1) := by decide +kernel
theorem dX2_addsReader_68 : decode cX2_addsReader 68 = .ok (.bipush 6, 2) := by decide +kernel
theorem dX2_addsReader_70 : decode cX2_addsReader 70 = .ok (.if_icmp .ge 27, 3) := by decide +kernel
theorem dX2_addsReader_73 : decode cX2_addsReader 73 = .ok (.aload_n 0, 1) := by decide +kernel
theorem dX2_addsReader_74 : decode cX2_addsReader 74 = .ok (.getfield 9, 3) := by decide +kernel
theorem dX2_addsReader_77 : decode cX2_addsReader 77 = .ok (.aload_n 0, 1) := by decide +kernel
theorem dX2_addsReader_78 : decode cX2_addsReader 78 = .ok (.getfield 9, 3) := by decide +kernel
theorem dX2_addsReader_81 : decode cX2_addsReader 81 = .ok (.iconst 1, 1) := by decide +kernel
theorem dX2_addsReader_82 : decode cX2_addsReader 82 = .ok (.iaload, 1) := by decide +kernel
theorem dX2_addsReader_83 : decode cX2_addsReader 83 = .ok (.iconst 2, 1) := by decide +kernel
theorem dX2_addsReader_84 : decode cX2_addsReader 84 = .ok (.iload_n 1, 1) := by decide +kernel
theorem dX2_addsReader_85 : decode cX2_addsReader 85 = .ok (.iadd, 1) := by decide +kernel
theorem dX2_addsReader_86 : decode cX2_addsReader 86 = .ok (.invokestatic 48, 3) := by decide +kernel
theorem dX2_addsReader_89 : decode cX2_addsReader 89 = .ok (.iconst 0, 1) := by decide +kernel
theorem dX2_addsReader_90 : decode cX2_addsReader 90 = .ok (.iastore, 1) := by decide +kernel
theorem dX2_addsReader_91 : decode cX2_addsReader 91 = .ok (.iinc 1 1, 3) := by decide +kernel
theorem dX2_addsReader_94 : decode cX2_addsReader 94 = .ok (.goto (-27), 3) := by decide +kernel
theorem dX2_addsReader_97 : decode cX2_addsReader 97 = .ok (.aload_n 0, 1) := by decide +kernel
theorem dX2_addsReader_98 : decode cX2_addsReader 98 = .ok (.getfield 9, 3) := by decide +kernel
theorem dX2_addsReader_101 : decode cX2_addsReader 101 = .ok (.iconst 1, 1) := by decide +kernel
theorem dX2_addsReader_102 : decode cX2_addsReader 102 = .ok (.dup2, 1) := by decide +kernel
theorem dX2_addsReader_103 : decode cX2_addsReader 103 = .ok (.iaload, 1) := by decide +kernel
theorem dX2_addsReader_104 : decode cX2_addsReader 104 = .ok (.iconst 1, 1) := by decide +kernel
theorem dX2_addsReader_105 : decode cX2_addsReader 105 = .ok (.iadd, 1) := by decide +kernel
theorem dX2_addsReader_106 : decode cX2_addsReader 106 = .ok (.iastore, 1) := by decide +kernel
theorem dX2_addsReader_107 : decode cX2_addsReader 107 = .ok (.iconst 1, 1) := by decide +kernel
theorem dX2_addsReader_108 : decode cX2_addsReader 108 = .ok (.ireturn, 1) := by decide +kernel
set_option maxRecDepth 20000 in
theorem ggX2_isDone_X2_addsRocket : GoodIn wsX2_isDone wsX2_addsRocket := goodIn_r _ [7, 1, 2, 8, 9, 6, 10, 61, 62, 63, 64, 65, 66, 67, 68, 69, 70, 71, 72, 73] (by decide +kernel) (by decide +kernel)
set_option maxRecDepth 20000 in
theorem gX2_isDone_X2_addsRocket : GoodIn wsX2_isDone (wsV RX2 118 RX2 yX2_addsRocket wsX2_addsRocket) := goodIn_app (goodIn_of _ (by decide +kernel)) ggX2_isDone_X2_addsRocket
set_option maxRecDepth 20000 in
theorem ggX2_isDone_X2_addsReader : GoodIn wsX2_isDone wsX2_addsReader := goodIn_r _ [14, 1, 2, 15, 16, 6, 17, 61, 62, 63, 64, 65, 66, 67, 68, 69, 70, 71, 72, 73] (by decide +kernel) (by decide +kernel)
set_option maxRecDepth 20000 in
theorem gX2_isDone_X2_addsReader : GoodIn wsX2_isDone (wsV RX2 121 RX2 yX2_addsReader wsX2_addsReader) := goodIn_app (goodIn_of _ (by decide +kernel)) ggX2_isDone_X2_addsReader
set_option maxRecDepth 20000 in
theorem ggX2_isDone_X2_isRocket : GoodIn wsX2_isDone wsX2_isRocket := goodIn_r _ [21, 2, 22, 23, 6, 24, 61, 62, 63, 64, 65, 66, 67, 68, 69, 70, 71, 72, 73] (by decide +kernel) (by decide +kernel)
set_option maxRecDepth 20000 in
theorem gX2_isDone_X2_isRocket : GoodIn wsX2_isDone (wsV RX2 124 RX2 yX2_isRocket wsX2_isRocket) := goodIn_app (goodIn_of _ (by decide +kernel)) ggX2_isDone_X2_isRocket
set_option maxRecDepth 20000 in
theorem ggX2_isDone_X2_canGo : GoodIn wsX2_isDone wsX2_canGo := goodIn_r _ [27, 8, 9, 6, 10, 28, 29, 30] (by decide +kernel) (by decide +kernel)
set_option maxRecDepth 20000 in
theorem gX2_isDone_X2_canGo : GoodIn wsX2_isDone (va_wsS RX2 76 yX2_canGo wsX2_canGo) := goodIn_app (goodIn_of _ (by decide +kernel)) ggX2_isDone_X2_canGo
set_option maxRecDepth 20000 in
theorem ggX2_isDone_X2_sendsIn : GoodIn wsX2_isDone wsX2_sendsIn := goodIn_r _ [33, 8, 9, 6, 10, 28, 29, 30, 34, 35, 36, 37, 38, 39, 40, 41, 42, 15, 16, 17, 43, 44, 45, 46, 47, 48, 49, 50, 51] (by decide +kernel) (by decide +kernel)
set_option maxRecDepth 20000 in
theorem gX2_isDone_X2_sendsIn : GoodIn wsX2_isDone (va_wsS RX2 84 yX2_sendsIn wsX2_sendsIn) := goodIn_app (goodIn_of _ (by decide +kernel)) ggX2_isDone_X2_sendsIn
set_option maxRecDepth 20000 in
theorem ggX2_isDone_X2_ofR : GoodIn wsX2_isDone wsX2_ofR := goodIn_r _ [10] (by decide +kernel) (by decide +kernel)
set_option maxRecDepth 20000 in
theorem gX2_isDone_X2_ofR : GoodIn wsX2_isDone (va_wsS RX2 44 yX2_ofR wsX2_ofR) := goodIn_app (goodIn_of _ (by decide +kernel)) ggX2_isDone_X2_ofR
set_option maxRecDepth 20000 in
theorem ggX2_isDone_X2_isIn : GoodIn wsX2_isDone wsX2_isIn := goodIn_r _ [24] (by decide +kernel) (by decide +kernel)
set_option maxRecDepth 20000 in
theorem gX2_isDone_X2_isIn : GoodIn wsX2_isDone (va_wsS RX2 40 yX2_isIn wsX2_isIn) := goodIn_app (goodIn_of _ (by decide +kernel)) ggX2_isDone_X2_isIn
set_option maxRecDepth 20000 in
theorem ggX2_isDone_X2_nightsOn : GoodIn wsX2_isDone wsX2_nightsOn := goodIn_r _ [54, 55, 56, 6, 57, 15, 16, 17, 58, 59, 60, 25, 26, 27, 8, 9, 10, 28, 29, 30, 31, 32, 33, 34, 35, 36, 37, 38, 39, 40, 41, 42, 43, 44, 45, 46, 47, 48, 49, 50, 51] (by decide +kernel) (by decide +kernel)
set_option maxRecDepth 20000 in
theorem gX2_isDone_X2_nightsOn : GoodIn wsX2_isDone (va_wsS RX2 128 yX2_nightsOn wsX2_nightsOn) := goodIn_app (goodIn_of _ (by decide +kernel)) ggX2_isDone_X2_nightsOn
theorem dX2_isDone_0 : decode cX2_isDone 0 = .ok (.aload_n 0, 1) := by decide +kernel
theorem dX2_isDone_1 : decode cX2_isDone 1 = .ok (.getfield 31, 3) := by decide +kernel
theorem dX2_isDone_4 : decode cX2_isDone 4 = .ok (.iconst 0, 1) := by decide +kernel
theorem dX2_isDone_5 : decode cX2_isDone 5 = .ok (.iaload, 1) := by decide +kernel
theorem dX2_isDone_6 : decode cX2_isDone 6 = .ok (.istore_n 2, 1) := by decide +kernel
theorem dX2_isDone_7 : decode cX2_isDone 7 = .ok (.iload_n 1, 1) := by decide +kernel
theorem dX2_isDone_8 : decode cX2_isDone 8 = .ok (.lookupswitch 156 #[(98, 120), (103, 111), (112, 65), (114, 60), (115, 70), (119, 102)], 60) := by decide +kernel
theorem dX2_isDone_68 : decode cX2_isDone 68 = .ok (.aload_n 0, 1) := by decide +kernel
theorem dX2_isDone_69 : decode cX2_isDone 69 = .ok (.invokevirtual 118, 3) := by decide +kernel
theorem dX2_isDone_72 : decode cX2_isDone 72 = .ok (.ireturn, 1) := by decide +kernel
theorem dX2_isDone_73 : decode cX2_isDone 73 = .ok (.aload_n 0, 1) := by decide +kernel
theorem dX2_isDone_74 : decode cX2_isDone 74 = .ok (.invokevirtual 121, 3) := by decide +kernel
theorem dX2_isDone_77 : decode cX2_isDone 77 = .ok (.ireturn, 1) := by decide +kernel
theorem dX2_isDone_78 : decode cX2_isDone 78 = .ok (.aload_n 0, 1) := by decide +kernel
theorem dX2_isDone_79 : decode cX2_isDone 79 = .ok (.iload_n 2, 1) := by decide +kernel
theorem dX2_isDone_80 : decode cX2_isDone 80 = .ok (.invokevirtual 124, 3) := by decide +kernel
theorem dX2_isDone_83 : decode cX2_isDone 83 = .ok (.ifCond .eq 14, 3) := by decide +kernel
theorem dX2_isDone_86 : decode cX2_isDone 86 = .ok (.aload_n 0, 1) := by decide +kernel
theorem dX2_isDone_87 : decode cX2_isDone 87 = .ok (.getfield 9, 3) := by decide +kernel
theorem dX2_isDone_90 : decode cX2_isDone 90 = .ok (.iload_n 2, 1) := by decide +kernel
theorem dX2_isDone_91 : decode cX2_isDone 91 = .ok (.invokestatic 76, 3) := by decide +kernel
theorem dX2_isDone_94 : decode cX2_isDone 94 = .ok (.ifCond .ne 5, 3) := by decide +kernel
theorem dX2_isDone_97 : decode cX2_isDone 97 = .ok (.iconst 0, 1) := by decide +kernel
theorem dX2_isDone_98 : decode cX2_isDone 98 = .ok (.ireturn, 1) := by decide +kernel
theorem dX2_isDone_99 : decode cX2_isDone 99 = .ok (.aload_n 0, 1) := by decide +kernel
theorem dX2_isDone_100 : decode cX2_isDone 100 = .ok (.getfield 9, 3) := by decide +kernel
theorem dX2_isDone_103 : decode cX2_isDone 103 = .ok (.iload_n 2, 1) := by decide +kernel
theorem dX2_isDone_104 : decode cX2_isDone 104 = .ok (.iconst (-1), 1) := by decide +kernel
theorem dX2_isDone_105 : decode cX2_isDone 105 = .ok (.invokestatic 84, 3) := by decide +kernel
theorem dX2_isDone_108 : decode cX2_isDone 108 = .ok (.iconst 1, 1) := by decide +kernel
theorem dX2_isDone_109 : decode cX2_isDone 109 = .ok (.ireturn, 1) := by decide +kernel
theorem dX2_isDone_110 : decode cX2_isDone 110 = .ok (.aload_n 0, 1) := by decide +kernel
theorem dX2_isDone_111 : decode cX2_isDone 111 = .ok (.getfield 9, 3) := by decide +kernel
theorem dX2_isDone_114 : decode cX2_isDone 114 = .ok (.iconst 4, 1) := by decide +kernel
theorem dX2_isDone_115 : decode cX2_isDone 115 = .ok (.iload_n 2, 1) := by decide +kernel
theorem dX2_isDone_116 : decode cX2_isDone 116 = .ok (.iastore, 1) := by decide +kernel
theorem dX2_isDone_117 : decode cX2_isDone 117 = .ok (.iconst 1, 1) := by decide +kernel
theorem dX2_isDone_118 : decode cX2_isDone 118 = .ok (.ireturn, 1) := by decide +kernel
theorem dX2_isDone_119 : decode cX2_isDone 119 = .ok (.aload_n 0, 1) := by decide +kernel
theorem dX2_isDone_120 : decode cX2_isDone 120 = .ok (.getfield 9, 3) := by decide +kernel
theorem dX2_isDone_123 : decode cX2_isDone 123 = .ok (.iconst 3, 1) := by decide +kernel
theorem dX2_isDone_124 : decode cX2_isDone 124 = .ok (.iload_n 2, 1) := by decide +kernel
theorem dX2_isDone_125 : decode cX2_isDone 125 = .ok (.iastore, 1) := by decide +kernel
theorem dX2_isDone_126 : decode cX2_isDone 126 = .ok (.iconst 1, 1) := by decide +kernel
theorem dX2_isDone_127 : decode cX2_isDone 127 = .ok (.ireturn, 1) := by decide +kernel
theorem dX2_isDone_128 : decode cX2_isDone 128 = .ok (.aload_n 0, 1) := by decide +kernel
theorem dX2_isDone_129 : decode cX2_isDone 129 = .ok (.iload_n 2, 1) := by decide +kernel
theorem dX2_isDone_130 : decode cX2_isDone 130 = .ok (.invokevirtual 124, 3) := by decide +kernel
theorem dX2_isDone_133 : decode cX2_isDone 133 = .ok (.ifCond .eq 16, 3) := by decide +kernel
theorem dX2_isDone_136 : decode cX2_isDone 136 = .ok (.aload_n 0, 1) := by decide +kernel
theorem dX2_isDone_137 : decode cX2_isDone 137 = .ok (.getfield 9, 3) := by decide +kernel
theorem dX2_isDone_140 : decode cX2_isDone 140 = .ok (.iload_n 2, 1) := by decide +kernel
theorem dX2_isDone_141 : decode cX2_isDone 141 = .ok (.iconst 3, 1) := by decide +kernel
theorem dX2_isDone_142 : decode cX2_isDone 142 = .ok (.invokestatic 44, 3) := by decide +kernel
theorem dX2_isDone_145 : decode cX2_isDone 145 = .ok (.iaload, 1) := by decide +kernel
theorem dX2_isDone_146 : decode cX2_isDone 146 = .ok (.ifCond .ne 5, 3) := by decide +kernel
theorem dX2_isDone_149 : decode cX2_isDone 149 = .ok (.iconst 0, 1) := by decide +kernel
theorem dX2_isDone_150 : decode cX2_isDone 150 = .ok (.ireturn, 1) := by decide +kernel
theorem dX2_isDone_151 : decode cX2_isDone 151 = .ok (.aload_n 0, 1) := by decide +kernel
theorem dX2_isDone_152 : decode cX2_isDone 152 = .ok (.getfield 9, 3) := by decide +kernel
theorem dX2_isDone_155 : decode cX2_isDone 155 = .ok (.iload_n 2, 1) := by decide +kernel
theorem dX2_isDone_156 : decode cX2_isDone 156 = .ok (.iconst 3, 1) := by decide +kernel
theorem dX2_isDone_157 : decode cX2_isDone 157 = .ok (.invokestatic 44, 3) := by decide +kernel
theorem dX2_isDone_160 : decode cX2_isDone 160 = .ok (.iconst 0, 1) := by decide +kernel
theorem dX2_isDone_161 : decode cX2_isDone 161 = .ok (.iastore, 1) := by decide +kernel
theorem dX2_isDone_162 : decode cX2_isDone 162 = .ok (.iconst 1, 1) := by decide +kernel
theorem dX2_isDone_163 : decode cX2_isDone 163 = .ok (.ireturn, 1) := by decide +kernel
theorem dX2_isDone_164 : decode cX2_isDone 164 = .ok (.iload_n 2, 1) := by decide +kernel
theorem dX2_isDone_165 : decode cX2_isDone 165 = .ok (.iconst 1, 1) := by decide +kernel
theorem dX2_isDone_166 : decode cX2_isDone 166 = .ok (.bipush 60, 2) := by decide +kernel
theorem dX2_isDone_168 : decode cX2_isDone 168 = .ok (.invokestatic 40, 3) := by decide +kernel
theorem dX2_isDone_171 : decode cX2_isDone 171 = .ok (.ifCond .eq 17, 3) := by decide +kernel
theorem dX2_isDone_174 : decode cX2_isDone 174 = .ok (.aload_n 0, 1) := by decide +kernel
theorem dX2_isDone_175 : decode cX2_isDone 175 = .ok (.getfield 9, 3) := by decide +kernel
theorem dX2_isDone_178 : decode cX2_isDone 178 = .ok (.iconst 2, 1) := by decide +kernel
theorem dX2_isDone_179 : decode cX2_isDone 179 = .ok (.iaload, 1) := by decide +kernel
theorem dX2_isDone_180 : decode cX2_isDone 180 = .ok (.iload_n 2, 1) := by decide +kernel
theorem dX2_isDone_181 : decode cX2_isDone 181 = .ok (.iadd, 1) := by decide +kernel
theorem dX2_isDone_182 : decode cX2_isDone 182 = .ok (.sipush 999, 3) := by decide +kernel
theorem dX2_isDone_185 : decode cX2_isDone 185 = .ok (.if_icmp .le 5, 3) := by decide +kernel
theorem dX2_isDone_188 : decode cX2_isDone 188 = .ok (.iconst 0, 1) := by decide +kernel
theorem dX2_isDone_189 : decode cX2_isDone 189 = .ok (.ireturn, 1) := by decide +kernel
theorem dX2_isDone_190 : decode cX2_isDone 190 = .ok (.aload_n 0, 1) := by decide +kernel
theorem dX2_isDone_191 : decode cX2_isDone 191 = .ok (.getfield 9, 3) := by decide +kernel
theorem dX2_isDone_194 : decode cX2_isDone 194 = .ok (.iload_n 2, 1) := by decide +kernel
theorem dX2_isDone_195 : decode cX2_isDone 195 = .ok (.iconst (-1), 1) := by decide +kernel
theorem dX2_isDone_196 : decode cX2_isDone 196 = .ok (.invokestatic 128, 3) := by decide +kernel
theorem dX2_isDone_199 : decode cX2_isDone 199 = .ok (.iconst 1, 1) := by decide +kernel
theorem dX2_isDone_200 : decode cX2_isDone 200 = .ok (.ireturn, 1) := by decide +kernel
set_option maxRecDepth 20000 in
theorem ggX2_valley_X2_readsStatement : GoodIn wsX2_valley wsX2_readsStatement := goodIn_r _ [9, 1, 10, 11, 12, 8, 13, 2, 14, 15, 16, 17, 18, 19, 20, 21, 22, 23, 24, 25, 26, 27, 28, 29, 91, 92, 93, 94, 95, 96, 97, 98, 99, 100, 101, 102, 103] (by decide +kernel) (by decide +kernel)
set_option maxRecDepth 20000 in
theorem gX2_valley_X2_readsStatement : GoodIn wsX2_valley (wsV RX2 131 RX2 yX2_readsStatement wsX2_readsStatement) := goodIn_app (goodIn_of _ (by decide +kernel)) ggX2_valley_X2_readsStatement
set_option maxRecDepth 20000 in
theorem ggX2_valley_X2_copies : GoodIn wsX2_valley wsX2_copies := goodIn_r _ [32] (by decide +kernel) (by decide +kernel)
set_option maxRecDepth 20000 in
theorem gX2_valley_X2_copies : GoodIn wsX2_valley (va_wsS RX2 134 yX2_copies wsX2_copies) := goodIn_app (goodIn_of _ (by decide +kernel)) ggX2_valley_X2_copies
set_option maxRecDepth 20000 in
theorem ggX2_valley_X2_here : GoodIn wsX2_valley wsX2_here := goodIn_r _ [13, 1, 2, 14, 91, 92, 93, 94, 95, 96, 97, 98, 99, 100, 101, 102, 103] (by decide +kernel) (by decide +kernel)
set_option maxRecDepth 20000 in
theorem gX2_valley_X2_here : GoodIn wsX2_valley (wsV RX2 104 RX2 yX2_here wsX2_here) := goodIn_app (goodIn_of _ (by decide +kernel)) ggX2_valley_X2_here
set_option maxRecDepth 20000 in
theorem ggX2_valley_X2_isDone : GoodIn wsX2_valley wsX2_isDone := goodIn_r _ [36, 19, 3, 37, 38, 39, 8, 40, 41, 42, 43, 44, 45, 46, 47, 48, 49, 50, 51, 52, 53, 54, 27, 28, 29, 55, 56, 57, 58, 59, 60, 61, 62, 63, 64, 65, 66, 67, 68, 69, 70, 71, 72, 73, 74, 75, 76, 77, 78, 79, 80, 81, 82, 83, 84, 85, 86, 87, 88, 89, 90, 91, 92, 93, 94, 95, 96, 97, 98, 99, 100, 101, 102, 103] (by decide +kernel) (by decide +kernel)
set_option maxRecDepth 20000 in
theorem gX2_valley_X2_isDone : GoodIn wsX2_valley (wsV RX2 138 RX2 yX2_isDone wsX2_isDone) := goodIn_app (goodIn_of _ (by decide +kernel)) ggX2_valley_X2_isDone
theorem dX2_valley_0 : decode cX2_valley 0 = .ok (.aload_n 0, 1) := by decide +kernel
theorem dX2_valley_1 : decode cX2_valley 1 = .ok (.iconst 0, 1) := by decide +kernel
theorem dX2_valley_2 : decode cX2_valley 2 = .ok (.putfield 101, 3) := by decide +kernel
theorem dX2_valley_5 : decode cX2_valley 5 = .ok (.iconst 0, 1) := by decide +kernel
theorem dX2_valley_6 : decode cX2_valley 6 = .ok (.istore_n 1, 1) := by decide +kernel
theorem dX2_valley_7 : decode cX2_valley 7 = .ok (.bipush (-9), 2) := by decide +kernel
theorem dX2_valley_9 : decode cX2_valley 9 = .ok (.istore_n 2, 1) := by decide +kernel
theorem dX2_valley_10 : decode cX2_valley 10 = .ok (.aload_n 0, 1) := by decide +kernel
theorem dX2_valley_11 : decode cX2_valley 11 = .ok (.invokevirtual 131, 3) := by decide +kernel
theorem dX2_valley_14 : decode cX2_valley 14 = .ok (.ifCond .ne 12, 3) := by decide +kernel
theorem dX2_valley_17 : decode cX2_valley 17 = .ok (.sipush (-1000), 3) := by decide +kernel
theorem dX2_valley_20 : decode cX2_valley 20 = .ok (.aload_n 0, 1) := by decide +kernel
theorem dX2_valley_21 : decode cX2_valley 21 = .ok (.getfield 101, 3) := by decide +kernel
theorem dX2_valley_24 : decode cX2_valley 24 = .ok (.isub, 1) := by decide +kernel
theorem dX2_valley_25 : decode cX2_valley 25 = .ok (.istore_n 2, 1) := by decide +kernel
theorem dX2_valley_26 : decode cX2_valley 26 = .ok (.iinc 1 1, 3) := by decide +kernel
theorem dX2_valley_29 : decode cX2_valley 29 = .ok (.iload_n 2, 1) := by decide +kernel
theorem dX2_valley_30 : decode cX2_valley 30 = .ok (.bipush (-9), 2) := by decide +kernel
theorem dX2_valley_32 : decode cX2_valley 32 = .ok (.if_icmp .ne 14, 3) := by decide +kernel
theorem dX2_valley_35 : decode cX2_valley 35 = .ok (.aload_n 0, 1) := by decide +kernel
theorem dX2_valley_36 : decode cX2_valley 36 = .ok (.getfield 101, 3) := by decide +kernel
theorem dX2_valley_39 : decode cX2_valley 39 = .ok (.aload_n 0, 1) := by decide +kernel
theorem dX2_valley_40 : decode cX2_valley 40 = .ok (.getfield 97, 3) := by decide +kernel
theorem dX2_valley_43 : decode cX2_valley 43 = .ok (.if_icmp .lt (-33), 3) := by decide +kernel
theorem dX2_valley_46 : decode cX2_valley 46 = .ok (.aload_n 0, 1) := by decide +kernel
theorem dX2_valley_47 : decode cX2_valley 47 = .ok (.getfield 9, 3) := by decide +kernel
theorem dX2_valley_50 : decode cX2_valley 50 = .ok (.aload_n 0, 1) := by decide +kernel
theorem dX2_valley_51 : decode cX2_valley 51 = .ok (.getfield 19, 3) := by decide +kernel
theorem dX2_valley_54 : decode cX2_valley 54 = .ok (.invokestatic 134, 3) := by decide +kernel
theorem dX2_valley_57 : decode cX2_valley 57 = .ok (.aload_n 0, 1) := by decide +kernel
theorem dX2_valley_58 : decode cX2_valley 58 = .ok (.iconst 0, 1) := by decide +kernel
theorem dX2_valley_59 : decode cX2_valley 59 = .ok (.putfield 101, 3) := by decide +kernel
theorem dX2_valley_62 : decode cX2_valley 62 = .ok (.iload_n 2, 1) := by decide +kernel
theorem dX2_valley_63 : decode cX2_valley 63 = .ok (.bipush (-9), 2) := by decide +kernel
theorem dX2_valley_65 : decode cX2_valley 65 = .ok (.if_icmp .ne 63, 3) := by decide +kernel
theorem dX2_valley_68 : decode cX2_valley 68 = .ok (.aload_n 0, 1) := by decide +kernel
theorem dX2_valley_69 : decode cX2_valley 69 = .ok (.getfield 101, 3) := by decide +kernel
theorem dX2_valley_72 : decode cX2_valley 72 = .ok (.aload_n 0, 1) := by decide +kernel
theorem dX2_valley_73 : decode cX2_valley 73 = .ok (.getfield 97, 3) := by decide +kernel
theorem dX2_valley_76 : decode cX2_valley 76 = .ok (.if_icmp .ge 52, 3) := by decide +kernel
theorem dX2_valley_79 : decode cX2_valley 79 = .ok (.aload_n 0, 1) := by decide +kernel
theorem dX2_valley_80 : decode cX2_valley 80 = .ok (.getfield 101, 3) := by decide +kernel
theorem dX2_valley_83 : decode cX2_valley 83 = .ok (.istore_n 3, 1) := by decide +kernel
theorem dX2_valley_84 : decode cX2_valley 84 = .ok (.aload_n 0, 1) := by decide +kernel
theorem dX2_valley_85 : decode cX2_valley 85 = .ok (.invokevirtual 104, 3) := by decide +kernel
theorem dX2_valley_88 : decode cX2_valley 88 = .ok (.istore 4, 2) := by decide +kernel
theorem dX2_valley_90 : decode cX2_valley 90 = .ok (.aload_n 0, 1) := by decide +kernel
theorem dX2_valley_91 : decode cX2_valley 91 = .ok (.invokevirtual 131, 3) := by decide +kernel
theorem dX2_valley_94 : decode cX2_valley 94 = .ok (.istore 5, 2) := by decide +kernel
theorem dX2_valley_96 : decode cX2_valley 96 = .ok (.aload_n 0, 1) := by decide +kernel
theorem dX2_valley_97 : decode cX2_valley 97 = .ok (.iload 4, 2) := by decide +kernel
theorem dX2_valley_99 : decode cX2_valley 99 = .ok (.invokevirtual 138, 3) := by decide +kernel
theorem dX2_valley_102 : decode cX2_valley 102 = .ok (.ifCond .eq 6, 3) := by decide +kernel
theorem dX2_valley_105 : decode cX2_valley 105 = .ok (.goto (-43), 3) := by decide +kernel
theorem dX2_valley_108 : decode cX2_valley 108 = .ok (.sipush (-2000), 3) := by decide +kernel
theorem dX2_valley_111 : decode cX2_valley 111 = .ok (.iload_n 3, 1) := by decide +kernel
theorem dX2_valley_112 : decode cX2_valley 112 = .ok (.isub, 1) := by decide +kernel
theorem dX2_valley_113 : decode cX2_valley 113 = .ok (.istore_n 2, 1) := by decide +kernel
theorem dX2_valley_114 : decode cX2_valley 114 = .ok (.aload_n 0, 1) := by decide +kernel
theorem dX2_valley_115 : decode cX2_valley 115 = .ok (.getfield 19, 3) := by decide +kernel
theorem dX2_valley_118 : decode cX2_valley 118 = .ok (.aload_n 0, 1) := by decide +kernel
theorem dX2_valley_119 : decode cX2_valley 119 = .ok (.getfield 9, 3) := by decide +kernel
theorem dX2_valley_122 : decode cX2_valley 122 = .ok (.invokestatic 134, 3) := by decide +kernel
theorem dX2_valley_125 : decode cX2_valley 125 = .ok (.goto (-63), 3) := by decide +kernel
theorem dX2_valley_128 : decode cX2_valley 128 = .ok (.aload_n 0, 1) := by decide +kernel
theorem dX2_valley_129 : decode cX2_valley 129 = .ok (.iconst 0, 1) := by decide +kernel
theorem dX2_valley_130 : decode cX2_valley 130 = .ok (.putfield 97, 3) := by decide +kernel
theorem dX2_valley_133 : decode cX2_valley 133 = .ok (.iload_n 2, 1) := by decide +kernel
theorem dX2_valley_134 : decode cX2_valley 134 = .ok (.bipush (-9), 2) := by decide +kernel
theorem dX2_valley_136 : decode cX2_valley 136 = .ok (.if_icmp .ne 7, 3) := by decide +kernel
theorem dX2_valley_139 : decode cX2_valley 139 = .ok (.iload_n 1, 1) := by decide +kernel
theorem dX2_valley_140 : decode cX2_valley 140 = .ok (.goto 4, 3) := by decide +kernel
theorem dX2_valley_143 : decode cX2_valley 143 = .ok (.iload_n 2, 1) := by decide +kernel
theorem dX2_valley_144 : decode cX2_valley 144 = .ok (.ireturn, 1) := by decide +kernel
set_option maxRecDepth 20000 in
theorem ggX2_rocket_X2_isRocket : GoodIn wsX2_rocket wsX2_isRocket := goodIn_r _ [6, 1, 7, 8, 5, 9, 42, 43, 44, 45, 46, 47, 48, 49, 50, 51, 52, 53, 54] (by decide +kernel) (by decide +kernel)
set_option maxRecDepth 20000 in
theorem gX2_rocket_X2_isRocket : GoodIn wsX2_rocket (wsV RX2 124 RX2 yX2_isRocket wsX2_isRocket) := goodIn_app (goodIn_of _ (by decide +kernel)) ggX2_rocket_X2_isRocket
set_option maxRecDepth 20000 in
theorem ggX2_rocket_X2_no : GoodIn wsX2_rocket wsX2_no := goodIn_r _ [13, 14, 42, 43, 44, 45, 46, 47, 48, 49, 50, 51, 52, 53, 54] (by decide +kernel) (by decide +kernel)
set_option maxRecDepth 20000 in
theorem gX2_rocket_X2_no : GoodIn wsX2_rocket (wsV RX2 36 RX2 yX2_no wsX2_no) := goodIn_app (goodIn_of _ (by decide +kernel)) ggX2_rocket_X2_no
set_option maxRecDepth 20000 in
theorem ggX2_rocket_X2_ofR : GoodIn wsX2_rocket wsX2_ofR := goodIn_r _ [17] (by decide +kernel) (by decide +kernel)
set_option maxRecDepth 20000 in
theorem gX2_rocket_X2_ofR : GoodIn wsX2_rocket (va_wsS RX2 44 yX2_ofR wsX2_ofR) := goodIn_app (goodIn_of _ (by decide +kernel)) ggX2_rocket_X2_ofR
set_option maxRecDepth 20000 in
theorem ggX2_rocket_X2_costBy : GoodIn wsX2_rocket wsX2_costBy := goodIn_r _ [20] (by decide +kernel) (by decide +kernel)
set_option maxRecDepth 20000 in
theorem gX2_rocket_X2_costBy : GoodIn wsX2_rocket (va_wsS RX2 69 yX2_costBy wsX2_costBy) := goodIn_app (goodIn_of _ (by decide +kernel)) ggX2_rocket_X2_costBy
set_option maxRecDepth 20000 in
theorem ggX2_rocket_X2_reachBy : GoodIn wsX2_rocket wsX2_reachBy := goodIn_r _ [23] (by decide +kernel) (by decide +kernel)
set_option maxRecDepth 20000 in
theorem gX2_rocket_X2_reachBy : GoodIn wsX2_rocket (va_wsS RX2 58 yX2_reachBy wsX2_reachBy) := goodIn_app (goodIn_of _ (by decide +kernel)) ggX2_rocket_X2_reachBy
set_option maxRecDepth 20000 in
theorem ggX2_rocket_X2_darkBy : GoodIn wsX2_rocket wsX2_darkBy := goodIn_r _ [26] (by decide +kernel) (by decide +kernel)
set_option maxRecDepth 20000 in
theorem gX2_rocket_X2_darkBy : GoodIn wsX2_rocket (va_wsS RX2 141 yX2_darkBy wsX2_darkBy) := goodIn_app (goodIn_of _ (by decide +kernel)) ggX2_rocket_X2_darkBy
set_option maxRecDepth 20000 in
theorem ggX2_rocket_X2_burstsAt : GoodIn wsX2_rocket wsX2_burstsAt := goodIn_r _ [29, 15, 16, 5, 17] (by decide +kernel) (by decide +kernel)
set_option maxRecDepth 20000 in
theorem gX2_rocket_X2_burstsAt : GoodIn wsX2_rocket (va_wsS RX2 51 yX2_burstsAt wsX2_burstsAt) := goodIn_app (goodIn_of _ (by decide +kernel)) ggX2_rocket_X2_burstsAt
set_option maxRecDepth 20000 in
theorem ggX2_rocket_X2_readers : GoodIn wsX2_rocket wsX2_readers := goodIn_r _ [32, 33, 34, 5, 35, 36, 37, 38, 27, 28, 29, 15, 16, 17, 39, 40, 41, 21, 22, 23] (by decide +kernel) (by decide +kernel)
set_option maxRecDepth 20000 in
theorem gX2_rocket_X2_readers : GoodIn wsX2_rocket (va_wsS RX2 144 yX2_readers wsX2_readers) := goodIn_app (goodIn_of _ (by decide +kernel)) ggX2_rocket_X2_readers
theorem dX2_rocket_0 : decode cX2_rocket 0 = .ok (.aload_n 0, 1) := by decide +kernel
theorem dX2_rocket_1 : decode cX2_rocket 1 = .ok (.iload_n 1, 1) := by decide +kernel
theorem dX2_rocket_2 : decode cX2_rocket 2 = .ok (.invokevirtual 124, 3) := by decide +kernel
theorem dX2_rocket_5 : decode cX2_rocket 5 = .ok (.ifCond .ne 9, 3) := by decide +kernel
theorem dX2_rocket_8 : decode cX2_rocket 8 = .ok (.aload_n 0, 1) := by decide +kernel
theorem dX2_rocket_9 : decode cX2_rocket 9 = .ok (.iconst (-1), 1) := by decide +kernel
theorem dX2_rocket_10 : decode cX2_rocket 10 = .ok (.invokevirtual 36, 3) := by decide +kernel
theorem dX2_rocket_13 : decode cX2_rocket 13 = .ok (.ireturn, 1) := by decide +kernel
theorem dX2_rocket_14 : decode cX2_rocket 14 = .ok (.aload_n 0, 1) := by decide +kernel
theorem dX2_rocket_15 : decode cX2_rocket 15 = .ok (.getfield 9, 3) := by decide +kernel
theorem dX2_rocket_18 : decode cX2_rocket 18 = .ok (.iload_n 1, 1) := by decide +kernel
theorem dX2_rocket_19 : decode cX2_rocket 19 = .ok (.iconst 0, 1) := by decide +kernel
theorem dX2_rocket_20 : decode cX2_rocket 20 = .ok (.invokestatic 44, 3) := by decide +kernel
theorem dX2_rocket_23 : decode cX2_rocket 23 = .ok (.iaload, 1) := by decide +kernel
theorem dX2_rocket_24 : decode cX2_rocket 24 = .ok (.istore_n 3, 1) := by decide +kernel
theorem dX2_rocket_25 : decode cX2_rocket 25 = .ok (.aload_n 0, 1) := by decide +kernel
