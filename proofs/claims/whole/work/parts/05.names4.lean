theorem dX1_refuse_20 : decode cX1_refuse 20 = .ok (.iastore, 1) := by decide +kernel
theorem dX1_refuse_21 : decode cX1_refuse 21 = .ok (.iload_n 1, 1) := by decide +kernel
theorem dX1_refuse_22 : decode cX1_refuse 22 = .ok (.ireturn, 1) := by decide +kernel
set_option maxRecDepth 20000 in
theorem ggX1_refuseLong_X1_refuse : GoodIn wsX1_refuseLong wsX1_refuse := goodIn_r _ [6, 7, 8, 9, 10, 11, 12, 13, 14, 15, 16, 17, 18, 19] (by decide +kernel) (by decide +kernel)
set_option maxRecDepth 20000 in
theorem gX1_refuseLong_X1_refuse : GoodIn wsX1_refuseLong (wsV RX1 52 RX1 yX1_refuse wsX1_refuse) := goodIn_app (goodIn_of _ (by decide +kernel)) ggX1_refuseLong_X1_refuse
theorem dX1_refuseLong_0 : decode cX1_refuseLong 0 = .ok (.ldc2_w 251, 3) := by decide +kernel
theorem dX1_refuseLong_3 : decode cX1_refuseLong 3 = .ok (.aload_n 0, 1) := by decide +kernel
theorem dX1_refuseLong_4 : decode cX1_refuseLong 4 = .ok (.iload_n 1, 1) := by decide +kernel
theorem dX1_refuseLong_5 : decode cX1_refuseLong 5 = .ok (.invokevirtual 52, 3) := by decide +kernel
theorem dX1_refuseLong_8 : decode cX1_refuseLong 8 = .ok (.i2l, 1) := by decide +kernel
theorem dX1_refuseLong_9 : decode cX1_refuseLong 9 = .ok (.lsub, 1) := by decide +kernel
theorem dX1_refuseLong_10 : decode cX1_refuseLong 10 = .ok (.lreturn, 1) := by decide +kernel
theorem dX1_refusalsOf_0 : decode cX1_refusalsOf 0 = .ok (.iload_n 1, 1) := by decide +kernel
theorem dX1_refusalsOf_1 : decode cX1_refusalsOf 1 = .ok (.iconst 1, 1) := by decide +kernel
theorem dX1_refusalsOf_2 : decode cX1_refusalsOf 2 = .ok (.if_icmp .lt 18, 3) := by decide +kernel
theorem dX1_refusalsOf_5 : decode cX1_refusalsOf 5 = .ok (.iload_n 1, 1) := by decide +kernel
theorem dX1_refusalsOf_6 : decode cX1_refusalsOf 6 = .ok (.bipush 6, 2) := by decide +kernel
theorem dX1_refusalsOf_8 : decode cX1_refusalsOf 8 = .ok (.if_icmp .gt 12, 3) := by decide +kernel
theorem dX1_refusalsOf_11 : decode cX1_refusalsOf 11 = .ok (.aload_n 0, 1) := by decide +kernel
theorem dX1_refusalsOf_12 : decode cX1_refusalsOf 12 = .ok (.getfield 40, 3) := by decide +kernel
theorem dX1_refusalsOf_15 : decode cX1_refusalsOf 15 = .ok (.iload_n 1, 1) := by decide +kernel
theorem dX1_refusalsOf_16 : decode cX1_refusalsOf 16 = .ok (.iaload, 1) := by decide +kernel
theorem dX1_refusalsOf_17 : decode cX1_refusalsOf 17 = .ok (.goto 5, 3) := by decide +kernel
theorem dX1_refusalsOf_20 : decode cX1_refusalsOf 20 = .ok (.bipush (-9), 2) := by decide +kernel
theorem dX1_refusalsOf_22 : decode cX1_refusalsOf 22 = .ok (.ireturn, 1) := by decide +kernel
theorem dX1_outside_0 : decode cX1_outside 0 = .ok (.iload_n 0, 1) := by decide +kernel
theorem dX1_outside_1 : decode cX1_outside 1 = .ok (.iload_n 1, 1) := by decide +kernel
theorem dX1_outside_2 : decode cX1_outside 2 = .ok (.if_icmp .ge 6, 3) := by decide +kernel
theorem dX1_outside_5 : decode cX1_outside 5 = .ok (.bipush (-4), 2) := by decide +kernel
theorem dX1_outside_7 : decode cX1_outside 7 = .ok (.ireturn, 1) := by decide +kernel
theorem dX1_outside_8 : decode cX1_outside 8 = .ok (.iload_n 0, 1) := by decide +kernel
theorem dX1_outside_9 : decode cX1_outside 9 = .ok (.iload_n 2, 1) := by decide +kernel
theorem dX1_outside_10 : decode cX1_outside 10 = .ok (.if_icmp .le 8, 3) := by decide +kernel
theorem dX1_outside_13 : decode cX1_outside 13 = .ok (.bipush (-6), 2) := by decide +kernel
theorem dX1_outside_15 : decode cX1_outside 15 = .ok (.goto 4, 3) := by decide +kernel
theorem dX1_outside_18 : decode cX1_outside 18 = .ok (.iconst 0, 1) := by decide +kernel
theorem dX1_outside_19 : decode cX1_outside 19 = .ok (.ireturn, 1) := by decide +kernel
theorem dX1_isOneOfTwo_0 : decode cX1_isOneOfTwo 0 = .ok (.iload_n 0, 1) := by decide +kernel
theorem dX1_isOneOfTwo_1 : decode cX1_isOneOfTwo 1 = .ok (.ifCond .eq 8, 3) := by decide +kernel
theorem dX1_isOneOfTwo_4 : decode cX1_isOneOfTwo 4 = .ok (.iload_n 0, 1) := by decide +kernel
theorem dX1_isOneOfTwo_5 : decode cX1_isOneOfTwo 5 = .ok (.iconst 1, 1) := by decide +kernel
theorem dX1_isOneOfTwo_6 : decode cX1_isOneOfTwo 6 = .ok (.if_icmp .ne 7, 3) := by decide +kernel
theorem dX1_isOneOfTwo_9 : decode cX1_isOneOfTwo 9 = .ok (.iconst 1, 1) := by decide +kernel
theorem dX1_isOneOfTwo_10 : decode cX1_isOneOfTwo 10 = .ok (.goto 4, 3) := by decide +kernel
theorem dX1_isOneOfTwo_13 : decode cX1_isOneOfTwo 13 = .ok (.iconst 0, 1) := by decide +kernel
theorem dX1_isOneOfTwo_14 : decode cX1_isOneOfTwo 14 = .ok (.ireturn, 1) := by decide +kernel
theorem dX1_lettersBehind_0 : decode cX1_lettersBehind 0 = .ok (.iload_n 0, 1) := by decide +kernel
theorem dX1_lettersBehind_1 : decode cX1_lettersBehind 1 = .ok (.tableswitch 117 98 119 #[115, 117, 117, 117, 117, 107, 117, 117, 117, 117, 117, 117, 109, 117, 105, 117, 103, 111, 117, 117, 117, 113], 103) := by decide +kernel
theorem dX1_lettersBehind_104 : decode cX1_lettersBehind 104 = .ok (.iconst 4, 1) := by decide +kernel
theorem dX1_lettersBehind_105 : decode cX1_lettersBehind 105 = .ok (.ireturn, 1) := by decide +kernel
theorem dX1_lettersBehind_106 : decode cX1_lettersBehind 106 = .ok (.iconst 4, 1) := by decide +kernel
theorem dX1_lettersBehind_107 : decode cX1_lettersBehind 107 = .ok (.ireturn, 1) := by decide +kernel
theorem dX1_lettersBehind_108 : decode cX1_lettersBehind 108 = .ok (.iconst 4, 1) := by decide +kernel
theorem dX1_lettersBehind_109 : decode cX1_lettersBehind 109 = .ok (.ireturn, 1) := by decide +kernel
theorem dX1_lettersBehind_110 : decode cX1_lettersBehind 110 = .ok (.iconst 3, 1) := by decide +kernel
theorem dX1_lettersBehind_111 : decode cX1_lettersBehind 111 = .ok (.ireturn, 1) := by decide +kernel
theorem dX1_lettersBehind_112 : decode cX1_lettersBehind 112 = .ok (.iconst 2, 1) := by decide +kernel
theorem dX1_lettersBehind_113 : decode cX1_lettersBehind 113 = .ok (.ireturn, 1) := by decide +kernel
theorem dX1_lettersBehind_114 : decode cX1_lettersBehind 114 = .ok (.iconst 2, 1) := by decide +kernel
theorem dX1_lettersBehind_115 : decode cX1_lettersBehind 115 = .ok (.ireturn, 1) := by decide +kernel
theorem dX1_lettersBehind_116 : decode cX1_lettersBehind 116 = .ok (.iconst 2, 1) := by decide +kernel
theorem dX1_lettersBehind_117 : decode cX1_lettersBehind 117 = .ok (.ireturn, 1) := by decide +kernel
theorem dX1_lettersBehind_118 : decode cX1_lettersBehind 118 = .ok (.iconst 0, 1) := by decide +kernel
theorem dX1_lettersBehind_119 : decode cX1_lettersBehind 119 = .ok (.ireturn, 1) := by decide +kernel
set_option maxRecDepth 20000 in
theorem ggX1_wrongLetter_X1_lettersBehind : GoodIn wsX1_wrongLetter wsX1_lettersBehind := goodIn_r _ [5] (by decide +kernel) (by decide +kernel)
set_option maxRecDepth 20000 in
theorem gX1_wrongLetter_X1_lettersBehind : GoodIn wsX1_wrongLetter (va_wsS RX1 67 yX1_lettersBehind wsX1_lettersBehind) := goodIn_app (goodIn_of _ (by decide +kernel)) ggX1_wrongLetter_X1_lettersBehind
set_option maxRecDepth 20000 in
theorem ggX1_wrongLetter_X1_canStand : GoodIn wsX1_wrongLetter wsX1_canStand := goodIn_r _ [8, 9, 10, 4, 11, 12, 13, 14, 15, 16, 17, 18, 19, 20, 21, 22, 23, 24, 25, 26, 27, 28, 29, 30, 31, 32, 33, 34, 35, 36, 37, 38, 39, 40, 41, 42, 43, 44, 45, 46, 47, 48, 49, 50, 51, 52, 53, 54, 55, 56, 57, 58, 59, 60, 61, 62, 63, 64, 65, 66, 67, 68, 69, 70, 71, 72, 73, 74, 75, 76, 77, 78, 79, 80, 81, 82, 83, 84, 85, 86, 87, 88, 89, 90, 91, 92, 93, 94, 95, 96, 97, 98, 99, 100] (by decide +kernel) (by decide +kernel)
set_option maxRecDepth 20000 in
theorem gX1_wrongLetter_X1_canStand : GoodIn wsX1_wrongLetter (va_wsS RX1 253 yX1_canStand wsX1_canStand) := goodIn_app (goodIn_of _ (by decide +kernel)) ggX1_wrongLetter_X1_canStand
theorem dX1_wrongLetter_0 : decode cX1_wrongLetter 0 = .ok (.bipush 59, 2) := by decide +kernel
theorem dX1_wrongLetter_2 : decode cX1_wrongLetter 2 = .ok (.istore_n 2, 1) := by decide +kernel
theorem dX1_wrongLetter_3 : decode cX1_wrongLetter 3 = .ok (.iconst 0, 1) := by decide +kernel
theorem dX1_wrongLetter_4 : decode cX1_wrongLetter 4 = .ok (.istore_n 3, 1) := by decide +kernel
theorem dX1_wrongLetter_5 : decode cX1_wrongLetter 5 = .ok (.iconst 0, 1) := by decide +kernel
theorem dX1_wrongLetter_6 : decode cX1_wrongLetter 6 = .ok (.istore 4, 2) := by decide +kernel
theorem dX1_wrongLetter_8 : decode cX1_wrongLetter 8 = .ok (.iload 4, 2) := by decide +kernel
theorem dX1_wrongLetter_10 : decode cX1_wrongLetter 10 = .ok (.iload_n 1, 1) := by decide +kernel
theorem dX1_wrongLetter_11 : decode cX1_wrongLetter 11 = .ok (.if_icmp .ge 54, 3) := by decide +kernel
theorem dX1_wrongLetter_14 : decode cX1_wrongLetter 14 = .ok (.aload_n 0, 1) := by decide +kernel
theorem dX1_wrongLetter_15 : decode cX1_wrongLetter 15 = .ok (.getfield 26, 3) := by decide +kernel
theorem dX1_wrongLetter_18 : decode cX1_wrongLetter 18 = .ok (.iload 4, 2) := by decide +kernel
theorem dX1_wrongLetter_20 : decode cX1_wrongLetter 20 = .ok (.iaload, 1) := by decide +kernel
theorem dX1_wrongLetter_21 : decode cX1_wrongLetter 21 = .ok (.istore 5, 2) := by decide +kernel
theorem dX1_wrongLetter_23 : decode cX1_wrongLetter 23 = .ok (.iload_n 3, 1) := by decide +kernel
theorem dX1_wrongLetter_24 : decode cX1_wrongLetter 24 = .ok (.ifCond .ne 19, 3) := by decide +kernel
theorem dX1_wrongLetter_27 : decode cX1_wrongLetter 27 = .ok (.iload 5, 2) := by decide +kernel
theorem dX1_wrongLetter_29 : decode cX1_wrongLetter 29 = .ok (.istore_n 2, 1) := by decide +kernel
theorem dX1_wrongLetter_30 : decode cX1_wrongLetter 30 = .ok (.iload 5, 2) := by decide +kernel
theorem dX1_wrongLetter_32 : decode cX1_wrongLetter 32 = .ok (.invokestatic 67, 3) := by decide +kernel
theorem dX1_wrongLetter_35 : decode cX1_wrongLetter 35 = .ok (.istore_n 3, 1) := by decide +kernel
theorem dX1_wrongLetter_36 : decode cX1_wrongLetter 36 = .ok (.iload_n 3, 1) := by decide +kernel
theorem dX1_wrongLetter_37 : decode cX1_wrongLetter 37 = .ok (.ifCond .ne 22, 3) := by decide +kernel
theorem dX1_wrongLetter_40 : decode cX1_wrongLetter 40 = .ok (.iload 4, 2) := by decide +kernel
theorem dX1_wrongLetter_42 : decode cX1_wrongLetter 42 = .ok (.ireturn, 1) := by decide +kernel
theorem dX1_wrongLetter_43 : decode cX1_wrongLetter 43 = .ok (.iload 5, 2) := by decide +kernel
theorem dX1_wrongLetter_45 : decode cX1_wrongLetter 45 = .ok (.iload_n 2, 1) := by decide +kernel
theorem dX1_wrongLetter_46 : decode cX1_wrongLetter 46 = .ok (.iload_n 3, 1) := by decide +kernel
theorem dX1_wrongLetter_47 : decode cX1_wrongLetter 47 = .ok (.invokestatic 253, 3) := by decide +kernel
theorem dX1_wrongLetter_50 : decode cX1_wrongLetter 50 = .ok (.ifCond .ne 6, 3) := by decide +kernel
theorem dX1_wrongLetter_53 : decode cX1_wrongLetter 53 = .ok (.iload 4, 2) := by decide +kernel
theorem dX1_wrongLetter_55 : decode cX1_wrongLetter 55 = .ok (.ireturn, 1) := by decide +kernel
theorem dX1_wrongLetter_56 : decode cX1_wrongLetter 56 = .ok (.iinc 3 (-1), 3) := by decide +kernel
theorem dX1_wrongLetter_59 : decode cX1_wrongLetter 59 = .ok (.iinc 4 1, 3) := by decide +kernel
theorem dX1_wrongLetter_62 : decode cX1_wrongLetter 62 = .ok (.goto (-54), 3) := by decide +kernel
theorem dX1_wrongLetter_65 : decode cX1_wrongLetter 65 = .ok (.iload_n 3, 1) := by decide +kernel
theorem dX1_wrongLetter_66 : decode cX1_wrongLetter 66 = .ok (.ifCond .gt 7, 3) := by decide +kernel
theorem dX1_wrongLetter_69 : decode cX1_wrongLetter 69 = .ok (.iload_n 1, 1) := by decide +kernel
theorem dX1_wrongLetter_70 : decode cX1_wrongLetter 70 = .ok (.ifCond .ne 7, 3) := by decide +kernel
theorem dX1_wrongLetter_73 : decode cX1_wrongLetter 73 = .ok (.iload_n 1, 1) := by decide +kernel
theorem dX1_wrongLetter_74 : decode cX1_wrongLetter 74 = .ok (.goto 4, 3) := by decide +kernel
theorem dX1_wrongLetter_77 : decode cX1_wrongLetter 77 = .ok (.iconst (-1), 1) := by decide +kernel
theorem dX1_wrongLetter_78 : decode cX1_wrongLetter 78 = .ok (.ireturn, 1) := by decide +kernel
set_option maxRecDepth 20000 in
theorem ggX1_canStand_X1_kindOf : GoodIn wsX1_canStand wsX1_kindOf := goodIn_r _ [4, 5, 6, 7, 8, 9, 10, 11, 12, 13, 14, 15, 16, 17, 18, 19, 20, 21, 22, 23, 24, 25, 26, 27, 28, 29, 30, 31, 32, 33, 34, 35, 36, 37, 38, 39, 40, 41, 42, 43, 44, 45, 46, 47, 48, 49, 50, 51, 52, 53, 54, 55, 56, 57, 58, 59, 60, 61, 62, 63, 64, 65, 66, 67, 68, 69, 70, 71, 72, 73, 74, 75, 76, 77, 78, 79, 80, 81, 82, 83, 84, 85, 86, 87, 88, 89, 90, 91, 92, 93] (by decide +kernel) (by decide +kernel)
set_option maxRecDepth 20000 in
theorem gX1_canStand_X1_kindOf : GoodIn wsX1_canStand (va_wsS RX1 256 yX1_kindOf wsX1_kindOf) := goodIn_app (goodIn_of _ (by decide +kernel)) ggX1_canStand_X1_kindOf
theorem dX1_canStand_0 : decode cX1_canStand 0 = .ok (.iload_n 2, 1) := by decide +kernel
theorem dX1_canStand_1 : decode cX1_canStand 1 = .ok (.iconst 1, 1) := by decide +kernel
theorem dX1_canStand_2 : decode cX1_canStand 2 = .ok (.if_icmp .ne 15, 3) := by decide +kernel
theorem dX1_canStand_5 : decode cX1_canStand 5 = .ok (.iload_n 0, 1) := by decide +kernel
theorem dX1_canStand_6 : decode cX1_canStand 6 = .ok (.bipush 59, 2) := by decide +kernel
theorem dX1_canStand_8 : decode cX1_canStand 8 = .ok (.if_icmp .ne 7, 3) := by decide +kernel
theorem dX1_canStand_11 : decode cX1_canStand 11 = .ok (.iconst 1, 1) := by decide +kernel
theorem dX1_canStand_12 : decode cX1_canStand 12 = .ok (.goto 4, 3) := by decide +kernel
theorem dX1_canStand_15 : decode cX1_canStand 15 = .ok (.iconst 0, 1) := by decide +kernel
theorem dX1_canStand_16 : decode cX1_canStand 16 = .ok (.ireturn, 1) := by decide +kernel
theorem dX1_canStand_17 : decode cX1_canStand 17 = .ok (.iload_n 1, 1) := by decide +kernel
theorem dX1_canStand_18 : decode cX1_canStand 18 = .ok (.bipush 114, 2) := by decide +kernel
theorem dX1_canStand_20 : decode cX1_canStand 20 = .ok (.if_icmp .ne 21, 3) := by decide +kernel
theorem dX1_canStand_23 : decode cX1_canStand 23 = .ok (.iload_n 2, 1) := by decide +kernel
theorem dX1_canStand_24 : decode cX1_canStand 24 = .ok (.iconst 4, 1) := by decide +kernel
theorem dX1_canStand_25 : decode cX1_canStand 25 = .ok (.if_icmp .ne 16, 3) := by decide +kernel
theorem dX1_canStand_28 : decode cX1_canStand 28 = .ok (.iload_n 0, 1) := by decide +kernel
theorem dX1_canStand_29 : decode cX1_canStand 29 = .ok (.invokestatic 256, 3) := by decide +kernel
theorem dX1_canStand_32 : decode cX1_canStand 32 = .ok (.ifCond .lt 7, 3) := by decide +kernel
theorem dX1_canStand_35 : decode cX1_canStand 35 = .ok (.iconst 1, 1) := by decide +kernel
theorem dX1_canStand_36 : decode cX1_canStand 36 = .ok (.goto 4, 3) := by decide +kernel
theorem dX1_canStand_39 : decode cX1_canStand 39 = .ok (.iconst 0, 1) := by decide +kernel
theorem dX1_canStand_40 : decode cX1_canStand 40 = .ok (.ireturn, 1) := by decide +kernel
theorem dX1_canStand_41 : decode cX1_canStand 41 = .ok (.iload_n 0, 1) := by decide +kernel
theorem dX1_canStand_42 : decode cX1_canStand 42 = .ok (.bipush 48, 2) := by decide +kernel
theorem dX1_canStand_44 : decode cX1_canStand 44 = .ok (.if_icmp .lt 13, 3) := by decide +kernel
theorem dX1_canStand_47 : decode cX1_canStand 47 = .ok (.iload_n 0, 1) := by decide +kernel
theorem dX1_canStand_48 : decode cX1_canStand 48 = .ok (.bipush 57, 2) := by decide +kernel
theorem dX1_canStand_50 : decode cX1_canStand 50 = .ok (.if_icmp .gt 7, 3) := by decide +kernel
theorem dX1_canStand_53 : decode cX1_canStand 53 = .ok (.iconst 1, 1) := by decide +kernel
theorem dX1_canStand_54 : decode cX1_canStand 54 = .ok (.goto 4, 3) := by decide +kernel
theorem dX1_canStand_57 : decode cX1_canStand 57 = .ok (.iconst 0, 1) := by decide +kernel
theorem dX1_canStand_58 : decode cX1_canStand 58 = .ok (.ireturn, 1) := by decide +kernel
set_option maxRecDepth 20000 in
theorem ggX1_kindOf_J0_indexOf_0f7a4 : GoodIn wsX1_kindOf wsJ0_indexOf_0f7a4 := goodIn_r _ [5, 6, 7, 8, 4, 9, 10, 11, 12, 13, 14, 15, 16, 17, 18, 19, 20, 21, 22, 23, 24, 25, 26, 27, 28, 29, 30, 31, 32, 33, 34, 35, 36, 37, 38, 39, 40, 41, 42, 43, 44, 45, 46, 47, 48, 49, 50, 51, 52, 53, 54, 55, 56, 57, 58, 59, 60, 61, 62, 63, 64, 65, 66, 67, 68, 69, 70, 71, 72, 73, 74, 75, 76, 77, 78, 79, 80, 81, 82, 83, 84, 85, 86, 87, 88, 89] (by decide +kernel) (by decide +kernel)
set_option maxRecDepth 20000 in
theorem gX1_kindOf_J0_indexOf_0f7a4 : GoodIn wsX1_kindOf (wsV RX1 261 RJ0 yJ0_indexOf_0f7a4 wsJ0_indexOf_0f7a4) := goodIn_app (goodIn_of _ (by decide +kernel)) ggX1_kindOf_J0_indexOf_0f7a4
theorem dX1_kindOf_0 : decode cX1_kindOf 0 = .ok (.ldc_w 259, 3) := by decide +kernel
theorem dX1_kindOf_3 : decode cX1_kindOf 3 = .ok (.iload_n 0, 1) := by decide +kernel
theorem dX1_kindOf_4 : decode cX1_kindOf 4 = .ok (.i2c, 1) := by decide +kernel
theorem dX1_kindOf_5 : decode cX1_kindOf 5 = .ok (.invokevirtual 261, 3) := by decide +kernel
theorem dX1_kindOf_8 : decode cX1_kindOf 8 = .ok (.ireturn, 1) := by decide +kernel
theorem dX1_numberAt_0 : decode cX1_numberAt 0 = .ok (.iconst 0, 1) := by decide +kernel
theorem dX1_numberAt_1 : decode cX1_numberAt 1 = .ok (.istore_n 3, 1) := by decide +kernel
theorem dX1_numberAt_2 : decode cX1_numberAt 2 = .ok (.iload_n 1, 1) := by decide +kernel
theorem dX1_numberAt_3 : decode cX1_numberAt 3 = .ok (.istore 4, 2) := by decide +kernel
theorem dX1_numberAt_5 : decode cX1_numberAt 5 = .ok (.iload 4, 2) := by decide +kernel
theorem dX1_numberAt_7 : decode cX1_numberAt 7 = .ok (.iload_n 1, 1) := by decide +kernel
theorem dX1_numberAt_8 : decode cX1_numberAt 8 = .ok (.iload_n 2, 1) := by decide +kernel
theorem dX1_numberAt_9 : decode cX1_numberAt 9 = .ok (.iadd, 1) := by decide +kernel
theorem dX1_numberAt_10 : decode cX1_numberAt 10 = .ok (.if_icmp .ge 32, 3) := by decide +kernel
theorem dX1_numberAt_13 : decode cX1_numberAt 13 = .ok (.iload 4, 2) := by decide +kernel
theorem dX1_numberAt_15 : decode cX1_numberAt 15 = .ok (.bipush 96, 2) := by decide +kernel
theorem dX1_numberAt_17 : decode cX1_numberAt 17 = .ok (.if_icmp .ge 25, 3) := by decide +kernel
theorem dX1_numberAt_20 : decode cX1_numberAt 20 = .ok (.bipush 10, 2) := by decide +kernel
theorem dX1_numberAt_22 : decode cX1_numberAt 22 = .ok (.iload_n 3, 1) := by decide +kernel
theorem dX1_numberAt_23 : decode cX1_numberAt 23 = .ok (.imul, 1) := by decide +kernel
theorem dX1_numberAt_24 : decode cX1_numberAt 24 = .ok (.aload_n 0, 1) := by decide +kernel
theorem dX1_numberAt_25 : decode cX1_numberAt 25 = .ok (.getfield 26, 3) := by decide +kernel
theorem dX1_numberAt_28 : decode cX1_numberAt 28 = .ok (.iload 4, 2) := by decide +kernel
theorem dX1_numberAt_30 : decode cX1_numberAt 30 = .ok (.iaload, 1) := by decide +kernel
theorem dX1_numberAt_31 : decode cX1_numberAt 31 = .ok (.bipush 48, 2) := by decide +kernel
theorem dX1_numberAt_33 : decode cX1_numberAt 33 = .ok (.isub, 1) := by decide +kernel
theorem dX1_numberAt_34 : decode cX1_numberAt 34 = .ok (.iadd, 1) := by decide +kernel
theorem dX1_numberAt_35 : decode cX1_numberAt 35 = .ok (.istore_n 3, 1) := by decide +kernel
theorem dX1_numberAt_36 : decode cX1_numberAt 36 = .ok (.iinc 4 1, 3) := by decide +kernel
theorem dX1_numberAt_39 : decode cX1_numberAt 39 = .ok (.goto (-34), 3) := by decide +kernel
theorem dX1_numberAt_42 : decode cX1_numberAt 42 = .ok (.iload_n 3, 1) := by decide +kernel
theorem dX1_numberAt_43 : decode cX1_numberAt 43 = .ok (.ireturn, 1) := by decide +kernel
set_option maxRecDepth 20000 in
theorem ggX1_comesToMind_X1_rocketComes : GoodIn wsX1_comesToMind wsX1_rocketComes := goodIn_r _ [9, 2, 1, 10, 11, 8, 12, 13, 14, 15, 16, 17, 18, 19, 20, 21, 22, 23, 24, 25, 26, 27, 28, 29, 30, 31, 32, 33, 34, 35, 36, 37, 38, 39, 40, 41, 42, 43, 44, 45, 46, 47, 48, 49, 50, 51, 52, 53, 54, 55, 56, 57, 58, 59, 60, 61, 62, 63, 64, 65, 66, 67, 68, 69, 70, 71, 72, 73, 74, 75, 76, 77, 78, 79, 80, 81, 82, 83, 84, 85, 86, 87, 88, 89, 90, 91, 92, 93, 94, 95, 96, 97, 98, 99, 100, 101, 102, 103, 104, 105, 106, 107, 108, 109, 110, 111, 112, 113, 114, 196, 197, 198, 199, 200, 201, 202, 203, 204, 205, 206, 207, 208, 209, 210, 211, 212, 213, 214, 215, 216, 217, 218, 219] (by decide +kernel) (by decide +kernel)
set_option maxRecDepth 20000 in
theorem gX1_comesToMind_X1_rocketComes : GoodIn wsX1_comesToMind (wsV RX1 266 RX1 yX1_rocketComes wsX1_rocketComes) := goodIn_app (goodIn_of _ (by decide +kernel)) ggX1_comesToMind_X1_rocketComes
set_option maxRecDepth 20000 in
theorem ggX1_comesToMind_X1_numberAt : GoodIn wsX1_comesToMind wsX1_numberAt := goodIn_r _ [105, 1, 196, 197, 198, 199, 200, 201, 202, 203, 204, 205, 206, 207] (by decide +kernel) (by decide +kernel)
set_option maxRecDepth 20000 in
theorem gX1_comesToMind_X1_numberAt : GoodIn wsX1_comesToMind (wsV RX1 269 RX1 yX1_numberAt wsX1_numberAt) := goodIn_app (goodIn_of _ (by decide +kernel)) ggX1_comesToMind_X1_numberAt
set_option maxRecDepth 20000 in
theorem ggX1_comesToMind_X0_addReader : GoodIn wsX1_comesToMind wsX0_addReader := goodIn_r _ [118, 119, 120, 121, 208, 209, 210, 211, 212, 213, 214, 215, 216, 217, 218, 219] (by decide +kernel) (by decide +kernel)
set_option maxRecDepth 20000 in
theorem gX1_comesToMind_X0_addReader : GoodIn wsX1_comesToMind (wsV RX1 272 RX0 yX0_addReader wsX0_addReader) := goodIn_app (goodIn_of _ (by decide +kernel)) ggX1_comesToMind_X0_addReader
set_option maxRecDepth 20000 in
theorem ggX1_comesToMind_X1_rocketGoesUp : GoodIn wsX1_comesToMind wsX1_rocketGoesUp := goodIn_r _ [125, 2, 126, 127, 128, 109, 129, 130, 131, 132, 133, 134, 111, 135, 136, 137, 138, 139, 140, 141, 142, 143, 112, 144, 145, 146, 147, 119, 114, 121, 148, 149, 150, 151, 152, 153, 154, 155, 156, 120, 157, 158, 159, 160, 161, 162, 163, 164, 165, 113, 196, 197, 198, 199, 200, 201, 202, 203, 204, 205, 206, 207, 208, 209, 210, 211, 212, 213, 214, 215, 216, 217, 218, 219] (by decide +kernel) (by decide +kernel)
set_option maxRecDepth 20000 in
theorem gX1_comesToMind_X1_rocketGoesUp : GoodIn wsX1_comesToMind (wsV RX1 276 RX1 yX1_rocketGoesUp wsX1_rocketGoesUp) := goodIn_app (goodIn_of _ (by decide +kernel)) ggX1_comesToMind_X1_rocketGoesUp
set_option maxRecDepth 20000 in
theorem ggX1_comesToMind_X1_rocketGoesBack : GoodIn wsX1_comesToMind wsX1_rocketGoesBack := goodIn_r _ [169, 2, 170, 132, 133, 109, 134, 111, 171, 136, 137, 138, 139, 172, 173, 174, 175, 196, 197, 198, 199, 200, 201, 202, 203, 204, 205, 206, 207, 208, 209, 210, 211, 212, 213, 214, 215, 216, 217, 218, 219] (by decide +kernel) (by decide +kernel)
set_option maxRecDepth 20000 in
theorem gX1_comesToMind_X1_rocketGoesBack : GoodIn wsX1_comesToMind (wsV RX1 279 RX1 yX1_rocketGoesBack wsX1_rocketGoesBack) := goodIn_app (goodIn_of _ (by decide +kernel)) ggX1_comesToMind_X1_rocketGoesBack
set_option maxRecDepth 20000 in
theorem ggX1_comesToMind_X1_nightsGoBy : GoodIn wsX1_comesToMind wsX1_nightsGoBy := goodIn_r _ [179, 2, 180, 181, 182, 183, 109, 184, 185, 186, 187, 188, 189, 119, 148, 190, 191, 192, 193, 111, 194, 127, 128, 129, 130, 131, 132, 133, 134, 135, 136, 137, 138, 139, 140, 141, 142, 143, 112, 195, 145, 146, 147, 114, 121, 149, 150, 151, 152, 153, 154, 155, 156, 120, 157, 158, 159, 160, 161, 162, 163, 164, 165, 113, 196, 197, 198, 199, 200, 201, 202, 203, 204, 205, 206, 207, 208, 209, 210, 211, 212, 213, 214, 215, 216, 217, 218, 219] (by decide +kernel) (by decide +kernel)
set_option maxRecDepth 20000 in
theorem gX1_comesToMind_X1_nightsGoBy : GoodIn wsX1_comesToMind (wsV RX1 282 RX1 yX1_nightsGoBy wsX1_nightsGoBy) := goodIn_app (goodIn_of _ (by decide +kernel)) ggX1_comesToMind_X1_nightsGoBy
theorem dX1_comesToMind_0 : decode cX1_comesToMind 0 = .ok (.aload_n 0, 1) := by decide +kernel
theorem dX1_comesToMind_1 : decode cX1_comesToMind 1 = .ok (.getfield 26, 3) := by decide +kernel
theorem dX1_comesToMind_4 : decode cX1_comesToMind 4 = .ok (.iload_n 1, 1) := by decide +kernel
theorem dX1_comesToMind_5 : decode cX1_comesToMind 5 = .ok (.iaload, 1) := by decide +kernel
theorem dX1_comesToMind_6 : decode cX1_comesToMind 6 = .ok (.tableswitch 205 98 119 #[145, 205, 205, 205, 205, 188, 205, 205, 205, 205, 205, 205, 158, 205, 108, 205, 102, 132, 205, 205, 205, 171], 102) := by decide +kernel
theorem dX1_comesToMind_108 : decode cX1_comesToMind 108 = .ok (.aload_n 0, 1) := by decide +kernel
theorem dX1_comesToMind_109 : decode cX1_comesToMind 109 = .ok (.iload_n 1, 1) := by decide +kernel
theorem dX1_comesToMind_110 : decode cX1_comesToMind 110 = .ok (.invokevirtual 266, 3) := by decide +kernel
theorem dX1_comesToMind_113 : decode cX1_comesToMind 113 = .ok (.ireturn, 1) := by decide +kernel
theorem dX1_comesToMind_114 : decode cX1_comesToMind 114 = .ok (.aload_n 0, 1) := by decide +kernel
theorem dX1_comesToMind_115 : decode cX1_comesToMind 115 = .ok (.getfield 16, 3) := by decide +kernel
theorem dX1_comesToMind_118 : decode cX1_comesToMind 118 = .ok (.aload_n 0, 1) := by decide +kernel
theorem dX1_comesToMind_119 : decode cX1_comesToMind 119 = .ok (.iload_n 1, 1) := by decide +kernel
theorem dX1_comesToMind_120 : decode cX1_comesToMind 120 = .ok (.iconst 1, 1) := by decide +kernel
theorem dX1_comesToMind_121 : decode cX1_comesToMind 121 = .ok (.iadd, 1) := by decide +kernel
theorem dX1_comesToMind_122 : decode cX1_comesToMind 122 = .ok (.iconst 2, 1) := by decide +kernel
theorem dX1_comesToMind_123 : decode cX1_comesToMind 123 = .ok (.invokevirtual 269, 3) := by decide +kernel
theorem dX1_comesToMind_126 : decode cX1_comesToMind 126 = .ok (.aload_n 0, 1) := by decide +kernel
theorem dX1_comesToMind_127 : decode cX1_comesToMind 127 = .ok (.iload_n 1, 1) := by decide +kernel
theorem dX1_comesToMind_128 : decode cX1_comesToMind 128 = .ok (.iconst 3, 1) := by decide +kernel
theorem dX1_comesToMind_129 : decode cX1_comesToMind 129 = .ok (.iadd, 1) := by decide +kernel
theorem dX1_comesToMind_130 : decode cX1_comesToMind 130 = .ok (.iconst 1, 1) := by decide +kernel
theorem dX1_comesToMind_131 : decode cX1_comesToMind 131 = .ok (.invokevirtual 269, 3) := by decide +kernel
theorem dX1_comesToMind_134 : decode cX1_comesToMind 134 = .ok (.invokevirtual 272, 3) := by decide +kernel
theorem dX1_comesToMind_137 : decode cX1_comesToMind 137 = .ok (.ireturn, 1) := by decide +kernel
theorem dX1_comesToMind_138 : decode cX1_comesToMind 138 = .ok (.aload_n 0, 1) := by decide +kernel
theorem dX1_comesToMind_139 : decode cX1_comesToMind 139 = .ok (.aload_n 0, 1) := by decide +kernel
theorem dX1_comesToMind_140 : decode cX1_comesToMind 140 = .ok (.iload_n 1, 1) := by decide +kernel
theorem dX1_comesToMind_141 : decode cX1_comesToMind 141 = .ok (.iconst 1, 1) := by decide +kernel
theorem dX1_comesToMind_142 : decode cX1_comesToMind 142 = .ok (.iadd, 1) := by decide +kernel
theorem dX1_comesToMind_143 : decode cX1_comesToMind 143 = .ok (.iconst 1, 1) := by decide +kernel
theorem dX1_comesToMind_144 : decode cX1_comesToMind 144 = .ok (.invokevirtual 269, 3) := by decide +kernel
theorem dX1_comesToMind_147 : decode cX1_comesToMind 147 = .ok (.invokevirtual 276, 3) := by decide +kernel
theorem dX1_comesToMind_150 : decode cX1_comesToMind 150 = .ok (.ireturn, 1) := by decide +kernel
theorem dX1_comesToMind_151 : decode cX1_comesToMind 151 = .ok (.aload_n 0, 1) := by decide +kernel
theorem dX1_comesToMind_152 : decode cX1_comesToMind 152 = .ok (.aload_n 0, 1) := by decide +kernel
theorem dX1_comesToMind_153 : decode cX1_comesToMind 153 = .ok (.iload_n 1, 1) := by decide +kernel
theorem dX1_comesToMind_154 : decode cX1_comesToMind 154 = .ok (.iconst 1, 1) := by decide +kernel
theorem dX1_comesToMind_155 : decode cX1_comesToMind 155 = .ok (.iadd, 1) := by decide +kernel
theorem dX1_comesToMind_156 : decode cX1_comesToMind 156 = .ok (.iconst 1, 1) := by decide +kernel
theorem dX1_comesToMind_157 : decode cX1_comesToMind 157 = .ok (.invokevirtual 269, 3) := by decide +kernel
theorem dX1_comesToMind_160 : decode cX1_comesToMind 160 = .ok (.invokevirtual 279, 3) := by decide +kernel
theorem dX1_comesToMind_163 : decode cX1_comesToMind 163 = .ok (.ireturn, 1) := by decide +kernel
theorem dX1_comesToMind_164 : decode cX1_comesToMind 164 = .ok (.aload_n 0, 1) := by decide +kernel
theorem dX1_comesToMind_165 : decode cX1_comesToMind 165 = .ok (.aload_n 0, 1) := by decide +kernel
theorem dX1_comesToMind_166 : decode cX1_comesToMind 166 = .ok (.iload_n 1, 1) := by decide +kernel
theorem dX1_comesToMind_167 : decode cX1_comesToMind 167 = .ok (.iconst 1, 1) := by decide +kernel
theorem dX1_comesToMind_168 : decode cX1_comesToMind 168 = .ok (.iadd, 1) := by decide +kernel
theorem dX1_comesToMind_169 : decode cX1_comesToMind 169 = .ok (.iconst 2, 1) := by decide +kernel
theorem dX1_comesToMind_170 : decode cX1_comesToMind 170 = .ok (.invokevirtual 269, 3) := by decide +kernel
theorem dX1_comesToMind_173 : decode cX1_comesToMind 173 = .ok (.invokevirtual 282, 3) := by decide +kernel
theorem dX1_comesToMind_176 : decode cX1_comesToMind 176 = .ok (.ireturn, 1) := by decide +kernel
theorem dX1_comesToMind_177 : decode cX1_comesToMind 177 = .ok (.aload_n 0, 1) := by decide +kernel
theorem dX1_comesToMind_178 : decode cX1_comesToMind 178 = .ok (.getfield 16, 3) := by decide +kernel
theorem dX1_comesToMind_181 : decode cX1_comesToMind 181 = .ok (.aload_n 0, 1) := by decide +kernel
theorem dX1_comesToMind_182 : decode cX1_comesToMind 182 = .ok (.iload_n 1, 1) := by decide +kernel
theorem dX1_comesToMind_183 : decode cX1_comesToMind 183 = .ok (.iconst 1, 1) := by decide +kernel
theorem dX1_comesToMind_184 : decode cX1_comesToMind 184 = .ok (.iadd, 1) := by decide +kernel
theorem dX1_comesToMind_185 : decode cX1_comesToMind 185 = .ok (.iconst 1, 1) := by decide +kernel
theorem dX1_comesToMind_186 : decode cX1_comesToMind 186 = .ok (.invokevirtual 269, 3) := by decide +kernel
theorem dX1_comesToMind_189 : decode cX1_comesToMind 189 = .ok (.putfield 144, 3) := by decide +kernel
theorem dX1_comesToMind_192 : decode cX1_comesToMind 192 = .ok (.iconst 1, 1) := by decide +kernel
theorem dX1_comesToMind_193 : decode cX1_comesToMind 193 = .ok (.ireturn, 1) := by decide +kernel
theorem dX1_comesToMind_194 : decode cX1_comesToMind 194 = .ok (.aload_n 0, 1) := by decide +kernel
theorem dX1_comesToMind_195 : decode cX1_comesToMind 195 = .ok (.getfield 16, 3) := by decide +kernel
theorem dX1_comesToMind_198 : decode cX1_comesToMind 198 = .ok (.aload_n 0, 1) := by decide +kernel
theorem dX1_comesToMind_199 : decode cX1_comesToMind 199 = .ok (.iload_n 1, 1) := by decide +kernel
theorem dX1_comesToMind_200 : decode cX1_comesToMind 200 = .ok (.iconst 1, 1) := by decide +kernel
theorem dX1_comesToMind_201 : decode cX1_comesToMind 201 = .ok (.iadd, 1) := by decide +kernel
theorem dX1_comesToMind_202 : decode cX1_comesToMind 202 = .ok (.iconst 3, 1) := by decide +kernel
theorem dX1_comesToMind_203 : decode cX1_comesToMind 203 = .ok (.invokevirtual 269, 3) := by decide +kernel
theorem dX1_comesToMind_206 : decode cX1_comesToMind 206 = .ok (.putfield 122, 3) := by decide +kernel
theorem dX1_comesToMind_209 : decode cX1_comesToMind 209 = .ok (.iconst 1, 1) := by decide +kernel
theorem dX1_comesToMind_210 : decode cX1_comesToMind 210 = .ok (.ireturn, 1) := by decide +kernel
theorem dX1_comesToMind_211 : decode cX1_comesToMind 211 = .ok (.iconst 0, 1) := by decide +kernel
theorem dX1_comesToMind_212 : decode cX1_comesToMind 212 = .ok (.ireturn, 1) := by decide +kernel
set_option maxRecDepth 20000 in
theorem ggX1_rocketComes_X1_kindOf : GoodIn wsX1_rocketComes wsX1_kindOf := goodIn_r _ [6, 7, 8, 9, 10, 11, 12, 13, 14, 15, 16, 17, 18, 19, 20, 21, 22, 23, 24, 25, 26, 27, 28, 29, 30, 31, 32, 33, 34, 35, 36, 37, 38, 39, 40, 41, 42, 43, 44, 45, 46, 47, 48, 49, 50, 51, 52, 53, 54, 55, 56, 57, 58, 59, 60, 61, 62, 63, 64, 65, 66, 67, 68, 69, 70, 71, 72, 73, 74, 75, 76, 77, 78, 79, 80, 81, 82, 83, 84, 85, 86, 87, 88, 89, 90, 91, 92, 93, 94, 95] (by decide +kernel) (by decide +kernel)
set_option maxRecDepth 20000 in
theorem gX1_rocketComes_X1_kindOf : GoodIn wsX1_rocketComes (va_wsS RX1 256 yX1_kindOf wsX1_kindOf) := goodIn_app (goodIn_of _ (by decide +kernel)) ggX1_rocketComes_X1_kindOf
set_option maxRecDepth 20000 in
theorem ggX1_rocketComes_X1_numberAt : GoodIn wsX1_rocketComes wsX1_numberAt := goodIn_r _ [99, 2, 109, 110, 111, 112, 113, 114, 115, 116, 117, 118, 119, 120] (by decide +kernel) (by decide +kernel)
set_option maxRecDepth 20000 in
theorem gX1_rocketComes_X1_numberAt : GoodIn wsX1_rocketComes (wsV RX1 269 RX1 yX1_numberAt wsX1_numberAt) := goodIn_app (goodIn_of _ (by decide +kernel)) ggX1_rocketComes_X1_numberAt
set_option maxRecDepth 20000 in
theorem ggX1_rocketComes_X0_addRocket : GoodIn wsX1_rocketComes wsX0_addRocket := goodIn_r _ [104, 105, 106, 107, 108, 121, 122, 123, 124, 125, 126, 127, 128, 129, 130, 131, 132] (by decide +kernel) (by decide +kernel)
set_option maxRecDepth 20000 in
theorem gX1_rocketComes_X0_addRocket : GoodIn wsX1_rocketComes (wsV RX1 285 RX0 yX0_addRocket wsX0_addRocket) := goodIn_app (goodIn_of _ (by decide +kernel)) ggX1_rocketComes_X0_addRocket
theorem dX1_rocketComes_0 : decode cX1_rocketComes 0 = .ok (.iload_n 1, 1) := by decide +kernel
theorem dX1_rocketComes_1 : decode cX1_rocketComes 1 = .ok (.iconst 1, 1) := by decide +kernel
theorem dX1_rocketComes_2 : decode cX1_rocketComes 2 = .ok (.iadd, 1) := by decide +kernel
theorem dX1_rocketComes_3 : decode cX1_rocketComes 3 = .ok (.bipush 96, 2) := by decide +kernel
theorem dX1_rocketComes_5 : decode cX1_rocketComes 5 = .ok (.if_icmp .lt 5, 3) := by decide +kernel
theorem dX1_rocketComes_8 : decode cX1_rocketComes 8 = .ok (.iconst 0, 1) := by decide +kernel
theorem dX1_rocketComes_9 : decode cX1_rocketComes 9 = .ok (.ireturn, 1) := by decide +kernel
theorem dX1_rocketComes_10 : decode cX1_rocketComes 10 = .ok (.aload_n 0, 1) := by decide +kernel
theorem dX1_rocketComes_11 : decode cX1_rocketComes 11 = .ok (.getfield 16, 3) := by decide +kernel
theorem dX1_rocketComes_14 : decode cX1_rocketComes 14 = .ok (.aload_n 0, 1) := by decide +kernel
theorem dX1_rocketComes_15 : decode cX1_rocketComes 15 = .ok (.getfield 26, 3) := by decide +kernel
theorem dX1_rocketComes_18 : decode cX1_rocketComes 18 = .ok (.iload_n 1, 1) := by decide +kernel
theorem dX1_rocketComes_19 : decode cX1_rocketComes 19 = .ok (.iconst 1, 1) := by decide +kernel
theorem dX1_rocketComes_20 : decode cX1_rocketComes 20 = .ok (.iadd, 1) := by decide +kernel
theorem dX1_rocketComes_21 : decode cX1_rocketComes 21 = .ok (.iaload, 1) := by decide +kernel
theorem dX1_rocketComes_22 : decode cX1_rocketComes 22 = .ok (.invokestatic 256, 3) := by decide +kernel
theorem dX1_rocketComes_25 : decode cX1_rocketComes 25 = .ok (.aload_n 0, 1) := by decide +kernel
theorem dX1_rocketComes_26 : decode cX1_rocketComes 26 = .ok (.iload_n 1, 1) := by decide +kernel
theorem dX1_rocketComes_27 : decode cX1_rocketComes 27 = .ok (.iconst 2, 1) := by decide +kernel
theorem dX1_rocketComes_28 : decode cX1_rocketComes 28 = .ok (.iadd, 1) := by decide +kernel
theorem dX1_rocketComes_29 : decode cX1_rocketComes 29 = .ok (.iconst 1, 1) := by decide +kernel
theorem dX1_rocketComes_30 : decode cX1_rocketComes 30 = .ok (.invokevirtual 269, 3) := by decide +kernel
theorem dX1_rocketComes_33 : decode cX1_rocketComes 33 = .ok (.aload_n 0, 1) := by decide +kernel
theorem dX1_rocketComes_34 : decode cX1_rocketComes 34 = .ok (.iload_n 1, 1) := by decide +kernel
theorem dX1_rocketComes_35 : decode cX1_rocketComes 35 = .ok (.iconst 3, 1) := by decide +kernel
theorem dX1_rocketComes_36 : decode cX1_rocketComes 36 = .ok (.iadd, 1) := by decide +kernel
theorem dX1_rocketComes_37 : decode cX1_rocketComes 37 = .ok (.iconst 1, 1) := by decide +kernel
theorem dX1_rocketComes_38 : decode cX1_rocketComes 38 = .ok (.invokevirtual 269, 3) := by decide +kernel
theorem dX1_rocketComes_41 : decode cX1_rocketComes 41 = .ok (.invokevirtual 285, 3) := by decide +kernel
theorem dX1_rocketComes_44 : decode cX1_rocketComes 44 = .ok (.ireturn, 1) := by decide +kernel
set_option maxRecDepth 20000 in
theorem ggX1_rocketGoesUp_X0_canSend : GoodIn wsX1_rocketGoesUp wsX0_canSend := goodIn_r _ [6, 7, 8, 9, 10, 5, 11, 12, 13, 14, 15, 16, 17, 18, 19, 20, 21, 22, 62, 63, 64, 65, 66, 67, 68, 69, 70, 71, 72, 73] (by decide +kernel) (by decide +kernel)
set_option maxRecDepth 20000 in
theorem gX1_rocketGoesUp_X0_canSend : GoodIn wsX1_rocketGoesUp (wsV RX1 115 RX0 yX0_canSend wsX0_canSend) := goodIn_app (goodIn_of _ (by decide +kernel)) ggX1_rocketGoesUp_X0_canSend
set_option maxRecDepth 20000 in
theorem ggX1_rocketGoesUp_X0_sendUp : GoodIn wsX1_rocketGoesUp wsX0_sendUp := goodIn_r _ [26, 7, 27, 28, 29, 30, 18, 19, 20, 5, 21, 22, 31, 32, 33, 34, 17, 35, 36, 37, 38, 39, 40, 41, 42, 43, 44, 45, 46, 47, 48, 49, 62, 63, 64, 65, 66, 67, 68, 69, 70, 71, 72, 73] (by decide +kernel) (by decide +kernel)
set_option maxRecDepth 20000 in
theorem gX1_rocketGoesUp_X0_sendUp : GoodIn wsX1_rocketGoesUp (wsV RX1 118 RX0 yX0_sendUp wsX0_sendUp) := goodIn_app (goodIn_of _ (by decide +kernel)) ggX1_rocketGoesUp_X0_sendUp
theorem dX1_rocketGoesUp_0 : decode cX1_rocketGoesUp 0 = .ok (.aload_n 0, 1) := by decide +kernel
theorem dX1_rocketGoesUp_1 : decode cX1_rocketGoesUp 1 = .ok (.getfield 16, 3) := by decide +kernel
theorem dX1_rocketGoesUp_4 : decode cX1_rocketGoesUp 4 = .ok (.iload_n 1, 1) := by decide +kernel
theorem dX1_rocketGoesUp_5 : decode cX1_rocketGoesUp 5 = .ok (.invokevirtual 115, 3) := by decide +kernel
theorem dX1_rocketGoesUp_8 : decode cX1_rocketGoesUp 8 = .ok (.ifCond .ne 5, 3) := by decide +kernel
theorem dX1_rocketGoesUp_11 : decode cX1_rocketGoesUp 11 = .ok (.iconst 0, 1) := by decide +kernel
theorem dX1_rocketGoesUp_12 : decode cX1_rocketGoesUp 12 = .ok (.ireturn, 1) := by decide +kernel
theorem dX1_rocketGoesUp_13 : decode cX1_rocketGoesUp 13 = .ok (.aload_n 0, 1) := by decide +kernel
theorem dX1_rocketGoesUp_14 : decode cX1_rocketGoesUp 14 = .ok (.getfield 16, 3) := by decide +kernel
theorem dX1_rocketGoesUp_17 : decode cX1_rocketGoesUp 17 = .ok (.iload_n 1, 1) := by decide +kernel
theorem dX1_rocketGoesUp_18 : decode cX1_rocketGoesUp 18 = .ok (.bipush 31, 2) := by decide +kernel
theorem dX1_rocketGoesUp_20 : decode cX1_rocketGoesUp 20 = .ok (.invokevirtual 118, 3) := by decide +kernel
theorem dX1_rocketGoesUp_23 : decode cX1_rocketGoesUp 23 = .ok (.iconst 1, 1) := by decide +kernel
theorem dX1_rocketGoesUp_24 : decode cX1_rocketGoesUp 24 = .ok (.ireturn, 1) := by decide +kernel
set_option maxRecDepth 20000 in
theorem ggX1_rocketGoesBack_X0_hasRocket : GoodIn wsX1_rocketGoesBack wsX0_hasRocket := goodIn_r _ [6, 7, 29, 30, 31, 32, 33, 34, 35, 36, 37, 38, 39, 40] (by decide +kernel) (by decide +kernel)
set_option maxRecDepth 20000 in
theorem gX1_rocketGoesBack_X0_hasRocket : GoodIn wsX1_rocketGoesBack (wsV RX1 70 RX0 yX0_hasRocket wsX0_hasRocket) := goodIn_app (goodIn_of _ (by decide +kernel)) ggX1_rocketGoesBack_X0_hasRocket
set_option maxRecDepth 20000 in
theorem ggX1_rocketGoesBack_X0_isSent : GoodIn wsX1_rocketGoesBack wsX0_isSent := goodIn_r _ [11, 12, 29, 30, 31, 32, 33, 34, 35, 36, 37, 38, 39, 40] (by decide +kernel) (by decide +kernel)
set_option maxRecDepth 20000 in
theorem gX1_rocketGoesBack_X0_isSent : GoodIn wsX1_rocketGoesBack (wsV RX1 82 RX0 yX0_isSent wsX0_isSent) := goodIn_app (goodIn_of _ (by decide +kernel)) ggX1_rocketGoesBack_X0_isSent
set_option maxRecDepth 20000 in
theorem ggX1_rocketGoesBack_X0_putBack : GoodIn wsX1_rocketGoesBack wsX0_putBack := goodIn_r _ [16, 12, 29, 30, 31, 32, 33, 34, 35, 36, 37, 38, 39, 40] (by decide +kernel) (by decide +kernel)
set_option maxRecDepth 20000 in
theorem gX1_rocketGoesBack_X0_putBack : GoodIn wsX1_rocketGoesBack (wsV RX1 125 RX0 yX0_putBack wsX0_putBack) := goodIn_app (goodIn_of _ (by decide +kernel)) ggX1_rocketGoesBack_X0_putBack
theorem dX1_rocketGoesBack_0 : decode cX1_rocketGoesBack 0 = .ok (.aload_n 0, 1) := by decide +kernel
theorem dX1_rocketGoesBack_1 : decode cX1_rocketGoesBack 1 = .ok (.getfield 16, 3) := by decide +kernel
theorem dX1_rocketGoesBack_4 : decode cX1_rocketGoesBack 4 = .ok (.iload_n 1, 1) := by decide +kernel
theorem dX1_rocketGoesBack_5 : decode cX1_rocketGoesBack 5 = .ok (.invokevirtual 70, 3) := by decide +kernel
theorem dX1_rocketGoesBack_8 : decode cX1_rocketGoesBack 8 = .ok (.ifCond .eq 14, 3) := by decide +kernel
theorem dX1_rocketGoesBack_11 : decode cX1_rocketGoesBack 11 = .ok (.aload_n 0, 1) := by decide +kernel
theorem dX1_rocketGoesBack_12 : decode cX1_rocketGoesBack 12 = .ok (.getfield 16, 3) := by decide +kernel
theorem dX1_rocketGoesBack_15 : decode cX1_rocketGoesBack 15 = .ok (.iload_n 1, 1) := by decide +kernel
theorem dX1_rocketGoesBack_16 : decode cX1_rocketGoesBack 16 = .ok (.invokevirtual 82, 3) := by decide +kernel
theorem dX1_rocketGoesBack_19 : decode cX1_rocketGoesBack 19 = .ok (.ifCond .ne 5, 3) := by decide +kernel
theorem dX1_rocketGoesBack_22 : decode cX1_rocketGoesBack 22 = .ok (.iconst 0, 1) := by decide +kernel
theorem dX1_rocketGoesBack_23 : decode cX1_rocketGoesBack 23 = .ok (.ireturn, 1) := by decide +kernel
theorem dX1_rocketGoesBack_24 : decode cX1_rocketGoesBack 24 = .ok (.aload_n 0, 1) := by decide +kernel
theorem dX1_rocketGoesBack_25 : decode cX1_rocketGoesBack 25 = .ok (.getfield 16, 3) := by decide +kernel
theorem dX1_rocketGoesBack_28 : decode cX1_rocketGoesBack 28 = .ok (.iload_n 1, 1) := by decide +kernel
theorem dX1_rocketGoesBack_29 : decode cX1_rocketGoesBack 29 = .ok (.invokevirtual 125, 3) := by decide +kernel
theorem dX1_rocketGoesBack_32 : decode cX1_rocketGoesBack 32 = .ok (.iconst 1, 1) := by decide +kernel
theorem dX1_rocketGoesBack_33 : decode cX1_rocketGoesBack 33 = .ok (.ireturn, 1) := by decide +kernel
set_option maxRecDepth 20000 in
theorem ggX1_nightsGoBy_X0_passNights : GoodIn wsX1_nightsGoBy wsX0_passNights := goodIn_r _ [7, 8, 9, 10, 11, 6, 12, 13, 14, 15, 16, 17, 18, 19, 20, 21, 22, 23, 24, 25, 26, 27, 28, 29, 30, 31, 32, 33, 34, 35, 36, 37, 38, 39, 40, 41, 42, 43, 44, 45, 46, 47, 48, 49, 50, 51, 52, 53, 54, 55, 56, 57, 58, 59, 60, 61, 62, 63, 76, 77, 78, 79, 80, 81, 82, 83, 84, 85, 86, 87] (by decide +kernel) (by decide +kernel)
set_option maxRecDepth 20000 in
theorem gX1_nightsGoBy_X0_passNights : GoodIn wsX1_nightsGoBy (wsV RX1 150 RX0 yX0_passNights wsX0_passNights) := goodIn_app (goodIn_of _ (by decide +kernel)) ggX1_nightsGoBy_X0_passNights
theorem dX1_nightsGoBy_0 : decode cX1_nightsGoBy 0 = .ok (.iload_n 1, 1) := by decide +kernel
theorem dX1_nightsGoBy_1 : decode cX1_nightsGoBy 1 = .ok (.iconst 1, 1) := by decide +kernel
theorem dX1_nightsGoBy_2 : decode cX1_nightsGoBy 2 = .ok (.if_icmp .lt 24, 3) := by decide +kernel
theorem dX1_nightsGoBy_5 : decode cX1_nightsGoBy 5 = .ok (.iload_n 1, 1) := by decide +kernel
theorem dX1_nightsGoBy_6 : decode cX1_nightsGoBy 6 = .ok (.bipush 60, 2) := by decide +kernel
theorem dX1_nightsGoBy_8 : decode cX1_nightsGoBy 8 = .ok (.if_icmp .gt 18, 3) := by decide +kernel
theorem dX1_nightsGoBy_11 : decode cX1_nightsGoBy 11 = .ok (.aload_n 0, 1) := by decide +kernel
theorem dX1_nightsGoBy_12 : decode cX1_nightsGoBy 12 = .ok (.getfield 16, 3) := by decide +kernel
theorem dX1_nightsGoBy_15 : decode cX1_nightsGoBy 15 = .ok (.getfield 147, 3) := by decide +kernel
theorem dX1_nightsGoBy_18 : decode cX1_nightsGoBy 18 = .ok (.iload_n 1, 1) := by decide +kernel
theorem dX1_nightsGoBy_19 : decode cX1_nightsGoBy 19 = .ok (.iadd, 1) := by decide +kernel
theorem dX1_nightsGoBy_20 : decode cX1_nightsGoBy 20 = .ok (.sipush 999, 3) := by decide +kernel
theorem dX1_nightsGoBy_23 : decode cX1_nightsGoBy 23 = .ok (.if_icmp .le 5, 3) := by decide +kernel
theorem dX1_nightsGoBy_26 : decode cX1_nightsGoBy 26 = .ok (.iconst 0, 1) := by decide +kernel
theorem dX1_nightsGoBy_27 : decode cX1_nightsGoBy 27 = .ok (.ireturn, 1) := by decide +kernel
theorem dX1_nightsGoBy_28 : decode cX1_nightsGoBy 28 = .ok (.aload_n 0, 1) := by decide +kernel
theorem dX1_nightsGoBy_29 : decode cX1_nightsGoBy 29 = .ok (.getfield 16, 3) := by decide +kernel
theorem dX1_nightsGoBy_32 : decode cX1_nightsGoBy 32 = .ok (.iload_n 1, 1) := by decide +kernel
theorem dX1_nightsGoBy_33 : decode cX1_nightsGoBy 33 = .ok (.bipush 31, 2) := by decide +kernel
theorem dX1_nightsGoBy_35 : decode cX1_nightsGoBy 35 = .ok (.invokevirtual 150, 3) := by decide +kernel
theorem dX1_nightsGoBy_38 : decode cX1_nightsGoBy 38 = .ok (.iconst 1, 1) := by decide +kernel
theorem dX1_nightsGoBy_39 : decode cX1_nightsGoBy 39 = .ok (.ireturn, 1) := by decide +kernel
set_option maxRecDepth 20000 in
theorem ggX1_thinkOn_X0_copyFrom : GoodIn wsX1_thinkOn wsX0_copyFrom := goodIn_r _ [7, 8, 9, 10, 11, 12, 13, 14, 15, 16, 17, 18, 19, 20, 21, 22, 23, 84, 85, 86, 87, 88, 89, 90, 91, 92, 93, 94, 95] (by decide +kernel) (by decide +kernel)
set_option maxRecDepth 20000 in
theorem gX1_thinkOn_X0_copyFrom : GoodIn wsX1_thinkOn (wsV RX1 59 RX0 yX0_copyFrom wsX0_copyFrom) := goodIn_app (goodIn_of _ (by decide +kernel)) ggX1_thinkOn_X0_copyFrom
set_option maxRecDepth 20000 in
theorem ggX1_thinkOn_X0_passNights : GoodIn wsX1_thinkOn wsX0_passNights := goodIn_r _ [27, 23, 28, 29, 30, 6, 31, 17, 20, 32, 33, 34, 35, 8, 36, 37, 38, 39, 21, 40, 41, 42, 43, 44, 45, 46, 47, 16, 48, 49, 50, 51, 9, 52, 53, 54, 55, 15, 19, 56, 57, 58, 59, 60, 61, 62, 63, 18, 64, 65, 66, 67, 22, 68, 69, 70, 71, 14, 84, 85, 86, 87, 88, 89, 90, 91, 92, 93, 94, 95] (by decide +kernel) (by decide +kernel)
set_option maxRecDepth 20000 in
theorem gX1_thinkOn_X0_passNights : GoodIn wsX1_thinkOn (wsV RX1 150 RX0 yX0_passNights wsX0_passNights) := goodIn_app (goodIn_of _ (by decide +kernel)) ggX1_thinkOn_X0_passNights
theorem dX1_thinkOn_0 : decode cX1_thinkOn 0 = .ok (.aload_n 0, 1) := by decide +kernel
theorem dX1_thinkOn_1 : decode cX1_thinkOn 1 = .ok (.getfield 16, 3) := by decide +kernel
theorem dX1_thinkOn_4 : decode cX1_thinkOn 4 = .ok (.aload_n 0, 1) := by decide +kernel
theorem dX1_thinkOn_5 : decode cX1_thinkOn 5 = .ok (.getfield 10, 3) := by decide +kernel
theorem dX1_thinkOn_8 : decode cX1_thinkOn 8 = .ok (.invokevirtual 59, 3) := by decide +kernel
theorem dX1_thinkOn_11 : decode cX1_thinkOn 11 = .ok (.aload_n 0, 1) := by decide +kernel
theorem dX1_thinkOn_12 : decode cX1_thinkOn 12 = .ok (.getfield 16, 3) := by decide +kernel
theorem dX1_thinkOn_15 : decode cX1_thinkOn 15 = .ok (.iload_n 1, 1) := by decide +kernel
theorem dX1_thinkOn_16 : decode cX1_thinkOn 16 = .ok (.bipush 31, 2) := by decide +kernel
theorem dX1_thinkOn_18 : decode cX1_thinkOn 18 = .ok (.invokevirtual 150, 3) := by decide +kernel
theorem dX1_thinkOn_21 : decode cX1_thinkOn 21 = .ok (.return_, 1) := by decide +kernel
set_option maxRecDepth 20000 in
theorem ggX1_nightsUntilWhole_X0_copyFrom : GoodIn wsX1_nightsUntilWhole wsX0_copyFrom := goodIn_r _ [7, 8, 9, 10, 11, 12, 13, 14, 15, 16, 17, 18, 19, 20, 21, 22, 23, 92, 93, 94, 95, 96, 97, 98, 99, 100, 101, 102, 103] (by decide +kernel) (by decide +kernel)
set_option maxRecDepth 20000 in
theorem gX1_nightsUntilWhole_X0_copyFrom : GoodIn wsX1_nightsUntilWhole (wsV RX1 59 RX0 yX0_copyFrom wsX0_copyFrom) := goodIn_app (goodIn_of _ (by decide +kernel)) ggX1_nightsUntilWhole_X0_copyFrom
set_option maxRecDepth 20000 in
theorem ggX1_nightsUntilWhole_X0_isWhole : GoodIn wsX1_nightsUntilWhole wsX0_isWhole := goodIn_r _ [27, 28, 29, 30, 6, 31, 20, 92, 93, 94, 95, 96, 97, 98, 99, 100, 101, 102, 103] (by decide +kernel) (by decide +kernel)
set_option maxRecDepth 20000 in
theorem gX1_nightsUntilWhole_X0_isWhole : GoodIn wsX1_nightsUntilWhole (wsV RX1 288 RX0 yX0_isWhole wsX0_isWhole) := goodIn_app (goodIn_of _ (by decide +kernel)) ggX1_nightsUntilWhole_X0_isWhole
set_option maxRecDepth 20000 in
theorem ggX1_nightsUntilWhole_X0_passNights : GoodIn wsX1_nightsUntilWhole wsX0_passNights := goodIn_r _ [35, 23, 36, 37, 38, 6, 39, 17, 20, 40, 41, 42, 43, 8, 44, 45, 46, 47, 21, 48, 49, 50, 51, 52, 53, 54, 55, 16, 56, 57, 58, 59, 9, 60, 61, 62, 63, 15, 19, 64, 65, 66, 67, 68, 69, 70, 71, 18, 72, 73, 74, 75, 22, 76, 77, 78, 79, 14, 92, 93, 94, 95, 96, 97, 98, 99, 100, 101, 102, 103] (by decide +kernel) (by decide +kernel)
set_option maxRecDepth 20000 in
theorem gX1_nightsUntilWhole_X0_passNights : GoodIn wsX1_nightsUntilWhole (wsV RX1 150 RX0 yX0_passNights wsX0_passNights) := goodIn_app (goodIn_of _ (by decide +kernel)) ggX1_nightsUntilWhole_X0_passNights
theorem dX1_nightsUntilWhole_0 : decode cX1_nightsUntilWhole 0 = .ok (.aload_n 0, 1) := by decide +kernel
theorem dX1_nightsUntilWhole_1 : decode cX1_nightsUntilWhole 1 = .ok (.getfield 16, 3) := by decide +kernel
theorem dX1_nightsUntilWhole_4 : decode cX1_nightsUntilWhole 4 = .ok (.aload_n 0, 1) := by decide +kernel
theorem dX1_nightsUntilWhole_5 : decode cX1_nightsUntilWhole 5 = .ok (.getfield 10, 3) := by decide +kernel
theorem dX1_nightsUntilWhole_8 : decode cX1_nightsUntilWhole 8 = .ok (.invokevirtual 59, 3) := by decide +kernel
theorem dX1_nightsUntilWhole_11 : decode cX1_nightsUntilWhole 11 = .ok (.iconst 0, 1) := by decide +kernel
theorem dX1_nightsUntilWhole_12 : decode cX1_nightsUntilWhole 12 = .ok (.istore_n 2, 1) := by decide +kernel
theorem dX1_nightsUntilWhole_13 : decode cX1_nightsUntilWhole 13 = .ok (.iload_n 2, 1) := by decide +kernel
theorem dX1_nightsUntilWhole_14 : decode cX1_nightsUntilWhole 14 = .ok (.bipush 60, 2) := by decide +kernel
theorem dX1_nightsUntilWhole_16 : decode cX1_nightsUntilWhole 16 = .ok (.if_icmp .gt 32, 3) := by decide +kernel
theorem dX1_nightsUntilWhole_19 : decode cX1_nightsUntilWhole 19 = .ok (.aload_n 0, 1) := by decide +kernel
theorem dX1_nightsUntilWhole_20 : decode cX1_nightsUntilWhole 20 = .ok (.getfield 16, 3) := by decide +kernel
theorem dX1_nightsUntilWhole_23 : decode cX1_nightsUntilWhole 23 = .ok (.iload_n 1, 1) := by decide +kernel
theorem dX1_nightsUntilWhole_24 : decode cX1_nightsUntilWhole 24 = .ok (.invokevirtual 288, 3) := by decide +kernel
theorem dX1_nightsUntilWhole_27 : decode cX1_nightsUntilWhole 27 = .ok (.ifCond .eq 5, 3) := by decide +kernel
theorem dX1_nightsUntilWhole_30 : decode cX1_nightsUntilWhole 30 = .ok (.iload_n 2, 1) := by decide +kernel
theorem dX1_nightsUntilWhole_31 : decode cX1_nightsUntilWhole 31 = .ok (.ireturn, 1) := by decide +kernel
theorem dX1_nightsUntilWhole_32 : decode cX1_nightsUntilWhole 32 = .ok (.aload_n 0, 1) := by decide +kernel
theorem dX1_nightsUntilWhole_33 : decode cX1_nightsUntilWhole 33 = .ok (.getfield 16, 3) := by decide +kernel
theorem dX1_nightsUntilWhole_36 : decode cX1_nightsUntilWhole 36 = .ok (.iconst 1, 1) := by decide +kernel
theorem dX1_nightsUntilWhole_37 : decode cX1_nightsUntilWhole 37 = .ok (.bipush 31, 2) := by decide +kernel
theorem dX1_nightsUntilWhole_39 : decode cX1_nightsUntilWhole 39 = .ok (.invokevirtual 150, 3) := by decide +kernel
theorem dX1_nightsUntilWhole_42 : decode cX1_nightsUntilWhole 42 = .ok (.iinc 2 1, 3) := by decide +kernel
theorem dX1_nightsUntilWhole_45 : decode cX1_nightsUntilWhole 45 = .ok (.goto (-32), 3) := by decide +kernel
theorem dX1_nightsUntilWhole_48 : decode cX1_nightsUntilWhole 48 = .ok (.bipush (-9), 2) := by decide +kernel
theorem dX1_nightsUntilWhole_50 : decode cX1_nightsUntilWhole 50 = .ok (.ireturn, 1) := by decide +kernel
set_option maxRecDepth 20000 in
theorem ggX1_firstWhole_X1_nightsUntilWhole : GoodIn wsX1_firstWhole wsX1_nightsUntilWhole := goodIn_r _ [7, 8, 1, 9, 10, 11, 12, 13, 14, 15, 16, 17, 18, 19, 20, 21, 22, 23, 24, 25, 26, 27, 28, 29, 30, 31, 32, 33, 34, 35, 36, 37, 38, 39, 40, 41, 42, 43, 44, 45, 46, 47, 48, 49, 50, 51, 52, 53, 54, 55, 56, 57, 58, 59, 60, 61, 62, 63, 64, 65, 66, 67, 68, 69, 70, 71, 72, 73, 74, 75, 76, 77, 78, 79, 80, 81, 82, 83, 84, 85, 86, 87, 88, 89, 90, 91, 92, 93, 94, 95, 96, 97, 98, 99, 100, 101, 102, 103, 104, 105, 106, 107, 108, 109] (by decide +kernel) (by decide +kernel)
set_option maxRecDepth 20000 in
theorem gX1_firstWhole_X1_nightsUntilWhole : GoodIn wsX1_firstWhole (wsV RX1 163 RX1 yX1_nightsUntilWhole wsX1_nightsUntilWhole) := goodIn_app (goodIn_of _ (by decide +kernel)) ggX1_firstWhole_X1_nightsUntilWhole
theorem dX1_firstWhole_0 : decode cX1_firstWhole 0 = .ok (.bipush (-9), 2) := by decide +kernel
theorem dX1_firstWhole_2 : decode cX1_firstWhole 2 = .ok (.istore_n 1, 1) := by decide +kernel
theorem dX1_firstWhole_3 : decode cX1_firstWhole 3 = .ok (.bipush 61, 2) := by decide +kernel
theorem dX1_firstWhole_5 : decode cX1_firstWhole 5 = .ok (.istore_n 2, 1) := by decide +kernel
theorem dX1_firstWhole_6 : decode cX1_firstWhole 6 = .ok (.iconst 0, 1) := by decide +kernel
theorem dX1_firstWhole_7 : decode cX1_firstWhole 7 = .ok (.istore_n 3, 1) := by decide +kernel
theorem dX1_firstWhole_8 : decode cX1_firstWhole 8 = .ok (.iload_n 3, 1) := by decide +kernel
theorem dX1_firstWhole_9 : decode cX1_firstWhole 9 = .ok (.aload_n 0, 1) := by decide +kernel
theorem dX1_firstWhole_10 : decode cX1_firstWhole 10 = .ok (.getfield 10, 3) := by decide +kernel
theorem dX1_firstWhole_13 : decode cX1_firstWhole 13 = .ok (.getfield 203, 3) := by decide +kernel
theorem dX1_firstWhole_16 : decode cX1_firstWhole 16 = .ok (.if_icmp .ge 34, 3) := by decide +kernel
theorem dX1_firstWhole_19 : decode cX1_firstWhole 19 = .ok (.aload_n 0, 1) := by decide +kernel
theorem dX1_firstWhole_20 : decode cX1_firstWhole 20 = .ok (.iload_n 3, 1) := by decide +kernel
theorem dX1_firstWhole_21 : decode cX1_firstWhole 21 = .ok (.invokevirtual 163, 3) := by decide +kernel
theorem dX1_firstWhole_24 : decode cX1_firstWhole 24 = .ok (.istore 4, 2) := by decide +kernel
theorem dX1_firstWhole_26 : decode cX1_firstWhole 26 = .ok (.iload 4, 2) := by decide +kernel
theorem dX1_firstWhole_28 : decode cX1_firstWhole 28 = .ok (.bipush (-9), 2) := by decide +kernel
theorem dX1_firstWhole_30 : decode cX1_firstWhole 30 = .ok (.if_icmp .eq 14, 3) := by decide +kernel
theorem dX1_firstWhole_33 : decode cX1_firstWhole 33 = .ok (.iload 4, 2) := by decide +kernel
theorem dX1_firstWhole_35 : decode cX1_firstWhole 35 = .ok (.iload_n 2, 1) := by decide +kernel
theorem dX1_firstWhole_36 : decode cX1_firstWhole 36 = .ok (.if_icmp .ge 8, 3) := by decide +kernel
theorem dX1_firstWhole_39 : decode cX1_firstWhole 39 = .ok (.iload 4, 2) := by decide +kernel
theorem dX1_firstWhole_41 : decode cX1_firstWhole 41 = .ok (.istore_n 2, 1) := by decide +kernel
theorem dX1_firstWhole_42 : decode cX1_firstWhole 42 = .ok (.iload_n 3, 1) := by decide +kernel
theorem dX1_firstWhole_43 : decode cX1_firstWhole 43 = .ok (.istore_n 1, 1) := by decide +kernel
theorem dX1_firstWhole_44 : decode cX1_firstWhole 44 = .ok (.iinc 3 1, 3) := by decide +kernel
theorem dX1_firstWhole_47 : decode cX1_firstWhole 47 = .ok (.goto (-39), 3) := by decide +kernel
theorem dX1_firstWhole_50 : decode cX1_firstWhole 50 = .ok (.iload_n 1, 1) := by decide +kernel
theorem dX1_firstWhole_51 : decode cX1_firstWhole 51 = .ok (.ireturn, 1) := by decide +kernel
set_option maxRecDepth 20000 in
theorem ggX1_nightsUntilSpent_X0_copyFrom : GoodIn wsX1_nightsUntilSpent wsX0_copyFrom := goodIn_r _ [7, 8, 9, 10, 11, 12, 13, 14, 15, 16, 17, 18, 19, 20, 21, 22, 23, 85, 86, 87, 88, 89, 90, 91, 92, 93, 94, 95, 96] (by decide +kernel) (by decide +kernel)
set_option maxRecDepth 20000 in
theorem gX1_nightsUntilSpent_X0_copyFrom : GoodIn wsX1_nightsUntilSpent (wsV RX1 59 RX0 yX0_copyFrom wsX0_copyFrom) := goodIn_app (goodIn_of _ (by decide +kernel)) ggX1_nightsUntilSpent_X0_copyFrom
set_option maxRecDepth 20000 in
theorem ggX1_nightsUntilSpent_X0_upNext : GoodIn wsX1_nightsUntilSpent wsX0_upNext := goodIn_r _ [27, 8, 28, 29, 30, 6, 31, 21, 32, 33, 34, 35, 36, 37, 38, 39, 16, 40, 41, 42, 43, 9, 85, 86, 87, 88, 89, 90, 91, 92, 93, 94, 95, 96] (by decide +kernel) (by decide +kernel)
set_option maxRecDepth 20000 in
theorem gX1_nightsUntilSpent_X0_upNext : GoodIn wsX1_nightsUntilSpent (wsV RX1 166 RX0 yX0_upNext wsX0_upNext) := goodIn_app (goodIn_of _ (by decide +kernel)) ggX1_nightsUntilSpent_X0_upNext
set_option maxRecDepth 20000 in
theorem ggX1_nightsUntilSpent_X0_passNights : GoodIn wsX1_nightsUntilSpent wsX0_passNights := goodIn_r _ [47, 23, 48, 49, 50, 6, 51, 17, 20, 52, 25, 26, 27, 8, 28, 29, 30, 31, 21, 32, 33, 34, 35, 36, 37, 38, 39, 16, 40, 41, 42, 43, 9, 53, 54, 55, 56, 15, 19, 57, 58, 59, 60, 61, 62, 63, 64, 18, 65, 66, 67, 68, 22, 69, 70, 71, 72, 14, 85, 86, 87, 88, 89, 90, 91, 92, 93, 94, 95, 96] (by decide +kernel) (by decide +kernel)
set_option maxRecDepth 20000 in
theorem gX1_nightsUntilSpent_X0_passNights : GoodIn wsX1_nightsUntilSpent (wsV RX1 150 RX0 yX0_passNights wsX0_passNights) := goodIn_app (goodIn_of _ (by decide +kernel)) ggX1_nightsUntilSpent_X0_passNights
theorem dX1_nightsUntilSpent_0 : decode cX1_nightsUntilSpent 0 = .ok (.aload_n 0, 1) := by decide +kernel
theorem dX1_nightsUntilSpent_1 : decode cX1_nightsUntilSpent 1 = .ok (.getfield 16, 3) := by decide +kernel
theorem dX1_nightsUntilSpent_4 : decode cX1_nightsUntilSpent 4 = .ok (.aload_n 0, 1) := by decide +kernel
theorem dX1_nightsUntilSpent_5 : decode cX1_nightsUntilSpent 5 = .ok (.getfield 10, 3) := by decide +kernel
theorem dX1_nightsUntilSpent_8 : decode cX1_nightsUntilSpent 8 = .ok (.invokevirtual 59, 3) := by decide +kernel
theorem dX1_nightsUntilSpent_11 : decode cX1_nightsUntilSpent 11 = .ok (.iconst 0, 1) := by decide +kernel
theorem dX1_nightsUntilSpent_12 : decode cX1_nightsUntilSpent 12 = .ok (.istore_n 1, 1) := by decide +kernel
theorem dX1_nightsUntilSpent_13 : decode cX1_nightsUntilSpent 13 = .ok (.iload_n 1, 1) := by decide +kernel
theorem dX1_nightsUntilSpent_14 : decode cX1_nightsUntilSpent 14 = .ok (.bipush 60, 2) := by decide +kernel
theorem dX1_nightsUntilSpent_16 : decode cX1_nightsUntilSpent 16 = .ok (.if_icmp .gt 33, 3) := by decide +kernel
theorem dX1_nightsUntilSpent_19 : decode cX1_nightsUntilSpent 19 = .ok (.aload_n 0, 1) := by decide +kernel
theorem dX1_nightsUntilSpent_20 : decode cX1_nightsUntilSpent 20 = .ok (.getfield 16, 3) := by decide +kernel
theorem dX1_nightsUntilSpent_23 : decode cX1_nightsUntilSpent 23 = .ok (.invokevirtual 166, 3) := by decide +kernel
theorem dX1_nightsUntilSpent_26 : decode cX1_nightsUntilSpent 26 = .ok (.bipush (-9), 2) := by decide +kernel
theorem dX1_nightsUntilSpent_28 : decode cX1_nightsUntilSpent 28 = .ok (.if_icmp .ne 5, 3) := by decide +kernel
theorem dX1_nightsUntilSpent_31 : decode cX1_nightsUntilSpent 31 = .ok (.iload_n 1, 1) := by decide +kernel
theorem dX1_nightsUntilSpent_32 : decode cX1_nightsUntilSpent 32 = .ok (.ireturn, 1) := by decide +kernel
theorem dX1_nightsUntilSpent_33 : decode cX1_nightsUntilSpent 33 = .ok (.aload_n 0, 1) := by decide +kernel
theorem dX1_nightsUntilSpent_34 : decode cX1_nightsUntilSpent 34 = .ok (.getfield 16, 3) := by decide +kernel
theorem dX1_nightsUntilSpent_37 : decode cX1_nightsUntilSpent 37 = .ok (.iconst 1, 1) := by decide +kernel
theorem dX1_nightsUntilSpent_38 : decode cX1_nightsUntilSpent 38 = .ok (.bipush 31, 2) := by decide +kernel
theorem dX1_nightsUntilSpent_40 : decode cX1_nightsUntilSpent 40 = .ok (.invokevirtual 150, 3) := by decide +kernel
theorem dX1_nightsUntilSpent_43 : decode cX1_nightsUntilSpent 43 = .ok (.iinc 1 1, 3) := by decide +kernel
theorem dX1_nightsUntilSpent_46 : decode cX1_nightsUntilSpent 46 = .ok (.goto (-33), 3) := by decide +kernel
theorem dX1_nightsUntilSpent_49 : decode cX1_nightsUntilSpent 49 = .ok (.bipush (-9), 2) := by decide +kernel
theorem dX1_nightsUntilSpent_51 : decode cX1_nightsUntilSpent 51 = .ok (.ireturn, 1) := by decide +kernel
set_option maxRecDepth 20000 in
theorem ggX1_noteWhatIsBrought_J7_fill_53178 : GoodIn wsX1_noteWhatIsBrought wsJ7_fill_53178 := goodIn_r _ [9] (by decide +kernel) (by decide +kernel)
set_option maxRecDepth 20000 in
theorem gX1_noteWhatIsBrought_J7_fill_53178 : GoodIn wsX1_noteWhatIsBrought (va_wsS RX1 291 yJ7_fill_53178 wsJ7_fill_53178) := goodIn_app (goodIn_of _ (by decide +kernel)) ggX1_noteWhatIsBrought_J7_fill_53178
set_option maxRecDepth 20000 in
theorem ggX1_noteWhatIsBrought_X0_readersOf : GoodIn wsX1_noteWhatIsBrought wsX0_readersOf := goodIn_r _ [14, 15, 16, 17, 18, 19, 13, 20, 21, 22, 23, 24, 25, 26, 27, 45, 46, 47, 48, 49, 50, 51, 52, 53, 54, 55, 56] (by decide +kernel) (by decide +kernel)
set_option maxRecDepth 20000 in
theorem gX1_noteWhatIsBrought_X0_readersOf : GoodIn wsX1_noteWhatIsBrought (wsV RX1 97 RX0 yX0_readersOf wsX0_readersOf) := goodIn_app (goodIn_of _ (by decide +kernel)) ggX1_noteWhatIsBrought_X0_readersOf
set_option maxRecDepth 20000 in
theorem ggX1_noteWhatIsBrought_X0_isSent : GoodIn wsX1_noteWhatIsBrought wsX0_isSent := goodIn_r _ [31, 32, 45, 46, 47, 48, 49, 50, 51, 52, 53, 54, 55, 56] (by decide +kernel) (by decide +kernel)
set_option maxRecDepth 20000 in
theorem gX1_noteWhatIsBrought_X0_isSent : GoodIn wsX1_noteWhatIsBrought (wsV RX1 82 RX0 yX0_isSent wsX0_isSent) := goodIn_app (goodIn_of _ (by decide +kernel)) ggX1_noteWhatIsBrought_X0_isSent
theorem dX1_noteWhatIsBrought_0 : decode cX1_noteWhatIsBrought 0 = .ok (.aload_n 0, 1) := by decide +kernel
theorem dX1_noteWhatIsBrought_1 : decode cX1_noteWhatIsBrought 1 = .ok (.getfield 43, 3) := by decide +kernel
theorem dX1_noteWhatIsBrought_4 : decode cX1_noteWhatIsBrought 4 = .ok (.iconst 0, 1) := by decide +kernel
theorem dX1_noteWhatIsBrought_5 : decode cX1_noteWhatIsBrought 5 = .ok (.invokestatic 291, 3) := by decide +kernel
theorem dX1_noteWhatIsBrought_8 : decode cX1_noteWhatIsBrought 8 = .ok (.iconst 0, 1) := by decide +kernel
theorem dX1_noteWhatIsBrought_9 : decode cX1_noteWhatIsBrought 9 = .ok (.istore_n 2, 1) := by decide +kernel
theorem dX1_noteWhatIsBrought_10 : decode cX1_noteWhatIsBrought 10 = .ok (.iload_n 2, 1) := by decide +kernel
theorem dX1_noteWhatIsBrought_11 : decode cX1_noteWhatIsBrought 11 = .ok (.aload_n 0, 1) := by decide +kernel
theorem dX1_noteWhatIsBrought_12 : decode cX1_noteWhatIsBrought 12 = .ok (.getfield 10, 3) := by decide +kernel
theorem dX1_noteWhatIsBrought_15 : decode cX1_noteWhatIsBrought 15 = .ok (.getfield 129, 3) := by decide +kernel
theorem dX1_noteWhatIsBrought_18 : decode cX1_noteWhatIsBrought 18 = .ok (.if_icmp .ge 75, 3) := by decide +kernel
theorem dX1_noteWhatIsBrought_21 : decode cX1_noteWhatIsBrought 21 = .ok (.aload_n 0, 1) := by decide +kernel
theorem dX1_noteWhatIsBrought_22 : decode cX1_noteWhatIsBrought 22 = .ok (.getfield 10, 3) := by decide +kernel
theorem dX1_noteWhatIsBrought_25 : decode cX1_noteWhatIsBrought 25 = .ok (.iload_n 2, 1) := by decide +kernel
theorem dX1_noteWhatIsBrought_26 : decode cX1_noteWhatIsBrought 26 = .ok (.invokevirtual 97, 3) := by decide +kernel
theorem dX1_noteWhatIsBrought_29 : decode cX1_noteWhatIsBrought 29 = .ok (.iload_n 1, 1) := by decide +kernel
theorem dX1_noteWhatIsBrought_30 : decode cX1_noteWhatIsBrought 30 = .ok (.ishr, 1) := by decide +kernel
theorem dX1_noteWhatIsBrought_31 : decode cX1_noteWhatIsBrought 31 = .ok (.iconst 1, 1) := by decide +kernel
theorem dX1_noteWhatIsBrought_32 : decode cX1_noteWhatIsBrought 32 = .ok (.iand, 1) := by decide +kernel
theorem dX1_noteWhatIsBrought_33 : decode cX1_noteWhatIsBrought 33 = .ok (.iconst 1, 1) := by decide +kernel
theorem dX1_noteWhatIsBrought_34 : decode cX1_noteWhatIsBrought 34 = .ok (.if_icmp .ne 7, 3) := by decide +kernel
theorem dX1_noteWhatIsBrought_37 : decode cX1_noteWhatIsBrought 37 = .ok (.iconst 1, 1) := by decide +kernel
theorem dX1_noteWhatIsBrought_38 : decode cX1_noteWhatIsBrought 38 = .ok (.goto 4, 3) := by decide +kernel
theorem dX1_noteWhatIsBrought_41 : decode cX1_noteWhatIsBrought 41 = .ok (.iconst 0, 1) := by decide +kernel
theorem dX1_noteWhatIsBrought_42 : decode cX1_noteWhatIsBrought 42 = .ok (.istore_n 3, 1) := by decide +kernel
theorem dX1_noteWhatIsBrought_43 : decode cX1_noteWhatIsBrought 43 = .ok (.aload_n 0, 1) := by decide +kernel
theorem dX1_noteWhatIsBrought_44 : decode cX1_noteWhatIsBrought 44 = .ok (.getfield 10, 3) := by decide +kernel
theorem dX1_noteWhatIsBrought_47 : decode cX1_noteWhatIsBrought 47 = .ok (.iload_n 2, 1) := by decide +kernel
theorem dX1_noteWhatIsBrought_48 : decode cX1_noteWhatIsBrought 48 = .ok (.invokevirtual 82, 3) := by decide +kernel
theorem dX1_noteWhatIsBrought_51 : decode cX1_noteWhatIsBrought 51 = .ok (.ifCond .ne 36, 3) := by decide +kernel
theorem dX1_noteWhatIsBrought_54 : decode cX1_noteWhatIsBrought 54 = .ok (.iload_n 3, 1) := by decide +kernel
theorem dX1_noteWhatIsBrought_55 : decode cX1_noteWhatIsBrought 55 = .ok (.ifCond .eq 32, 3) := by decide +kernel
theorem dX1_noteWhatIsBrought_58 : decode cX1_noteWhatIsBrought 58 = .ok (.aload_n 0, 1) := by decide +kernel
theorem dX1_noteWhatIsBrought_59 : decode cX1_noteWhatIsBrought 59 = .ok (.getfield 10, 3) := by decide +kernel
theorem dX1_noteWhatIsBrought_62 : decode cX1_noteWhatIsBrought 62 = .ok (.getfield 106, 3) := by decide +kernel
theorem dX1_noteWhatIsBrought_65 : decode cX1_noteWhatIsBrought 65 = .ok (.iload_n 1, 1) := by decide +kernel
theorem dX1_noteWhatIsBrought_66 : decode cX1_noteWhatIsBrought 66 = .ok (.iaload, 1) := by decide +kernel
theorem dX1_noteWhatIsBrought_67 : decode cX1_noteWhatIsBrought 67 = .ok (.ifCond .le 20, 3) := by decide +kernel
theorem dX1_noteWhatIsBrought_70 : decode cX1_noteWhatIsBrought 70 = .ok (.aload_n 0, 1) := by decide +kernel
theorem dX1_noteWhatIsBrought_71 : decode cX1_noteWhatIsBrought 71 = .ok (.getfield 43, 3) := by decide +kernel
theorem dX1_noteWhatIsBrought_74 : decode cX1_noteWhatIsBrought 74 = .ok (.iload_n 2, 1) := by decide +kernel
theorem dX1_noteWhatIsBrought_75 : decode cX1_noteWhatIsBrought 75 = .ok (.iconst 1, 1) := by decide +kernel
theorem dX1_noteWhatIsBrought_76 : decode cX1_noteWhatIsBrought 76 = .ok (.aload_n 0, 1) := by decide +kernel
theorem dX1_noteWhatIsBrought_77 : decode cX1_noteWhatIsBrought 77 = .ok (.getfield 10, 3) := by decide +kernel
theorem dX1_noteWhatIsBrought_80 : decode cX1_noteWhatIsBrought 80 = .ok (.getfield 79, 3) := by decide +kernel
theorem dX1_noteWhatIsBrought_83 : decode cX1_noteWhatIsBrought 83 = .ok (.iload_n 2, 1) := by decide +kernel
theorem dX1_noteWhatIsBrought_84 : decode cX1_noteWhatIsBrought 84 = .ok (.iaload, 1) := by decide +kernel
theorem dX1_noteWhatIsBrought_85 : decode cX1_noteWhatIsBrought 85 = .ok (.ishl, 1) := by decide +kernel
theorem dX1_noteWhatIsBrought_86 : decode cX1_noteWhatIsBrought 86 = .ok (.iastore, 1) := by decide +kernel
theorem dX1_noteWhatIsBrought_87 : decode cX1_noteWhatIsBrought 87 = .ok (.iinc 2 1, 3) := by decide +kernel
theorem dX1_noteWhatIsBrought_90 : decode cX1_noteWhatIsBrought 90 = .ok (.goto (-80), 3) := by decide +kernel
theorem dX1_noteWhatIsBrought_93 : decode cX1_noteWhatIsBrought 93 = .ok (.return_, 1) := by decide +kernel
set_option maxRecDepth 20000 in
theorem ggX1_makesWhole_X0_wordsOf : GoodIn wsX1_makesWhole wsX0_wordsOf := goodIn_r _ [8, 9, 22, 23, 24, 25, 26, 27, 28, 29, 30, 31, 32, 33] (by decide +kernel) (by decide +kernel)
set_option maxRecDepth 20000 in
theorem gX1_makesWhole_X0_wordsOf : GoodIn wsX1_makesWhole (wsV RX1 109 RX0 yX0_wordsOf wsX0_wordsOf) := goodIn_app (goodIn_of _ (by decide +kernel)) ggX1_makesWhole_X0_wordsOf
theorem dX1_makesWhole_0 : decode cX1_makesWhole 0 = .ok (.aload_n 0, 1) := by decide +kernel
theorem dX1_makesWhole_1 : decode cX1_makesWhole 1 = .ok (.getfield 10, 3) := by decide +kernel
theorem dX1_makesWhole_4 : decode cX1_makesWhole 4 = .ok (.iload_n 1, 1) := by decide +kernel
theorem dX1_makesWhole_5 : decode cX1_makesWhole 5 = .ok (.invokevirtual 109, 3) := by decide +kernel
theorem dX1_makesWhole_8 : decode cX1_makesWhole 8 = .ok (.istore_n 3, 1) := by decide +kernel
theorem dX1_makesWhole_9 : decode cX1_makesWhole 9 = .ok (.iconst 0, 1) := by decide +kernel
theorem dX1_makesWhole_10 : decode cX1_makesWhole 10 = .ok (.istore 4, 2) := by decide +kernel
theorem dX1_makesWhole_12 : decode cX1_makesWhole 12 = .ok (.iload 4, 2) := by decide +kernel
theorem dX1_makesWhole_14 : decode cX1_makesWhole 14 = .ok (.aload_n 0, 1) := by decide +kernel
theorem dX1_makesWhole_15 : decode cX1_makesWhole 15 = .ok (.getfield 10, 3) := by decide +kernel
theorem dX1_makesWhole_18 : decode cX1_makesWhole 18 = .ok (.getfield 129, 3) := by decide +kernel
theorem dX1_makesWhole_21 : decode cX1_makesWhole 21 = .ok (.if_icmp .ge 29, 3) := by decide +kernel
theorem dX1_makesWhole_24 : decode cX1_makesWhole 24 = .ok (.iload_n 2, 1) := by decide +kernel
theorem dX1_makesWhole_25 : decode cX1_makesWhole 25 = .ok (.iload 4, 2) := by decide +kernel
theorem dX1_makesWhole_27 : decode cX1_makesWhole 27 = .ok (.ishr, 1) := by decide +kernel
theorem dX1_makesWhole_28 : decode cX1_makesWhole 28 = .ok (.iconst 1, 1) := by decide +kernel
theorem dX1_makesWhole_29 : decode cX1_makesWhole 29 = .ok (.iand, 1) := by decide +kernel
theorem dX1_makesWhole_30 : decode cX1_makesWhole 30 = .ok (.iconst 1, 1) := by decide +kernel
theorem dX1_makesWhole_31 : decode cX1_makesWhole 31 = .ok (.if_icmp .ne 13, 3) := by decide +kernel
theorem dX1_makesWhole_34 : decode cX1_makesWhole 34 = .ok (.iload_n 3, 1) := by decide +kernel
theorem dX1_makesWhole_35 : decode cX1_makesWhole 35 = .ok (.aload_n 0, 1) := by decide +kernel
theorem dX1_makesWhole_36 : decode cX1_makesWhole 36 = .ok (.getfield 43, 3) := by decide +kernel
theorem dX1_makesWhole_39 : decode cX1_makesWhole 39 = .ok (.iload 4, 2) := by decide +kernel
theorem dX1_makesWhole_41 : decode cX1_makesWhole 41 = .ok (.iaload, 1) := by decide +kernel
theorem dX1_makesWhole_42 : decode cX1_makesWhole 42 = .ok (.ior, 1) := by decide +kernel
theorem dX1_makesWhole_43 : decode cX1_makesWhole 43 = .ok (.istore_n 3, 1) := by decide +kernel
theorem dX1_makesWhole_44 : decode cX1_makesWhole 44 = .ok (.iinc 4 1, 3) := by decide +kernel
theorem dX1_makesWhole_47 : decode cX1_makesWhole 47 = .ok (.goto (-35), 3) := by decide +kernel
theorem dX1_makesWhole_50 : decode cX1_makesWhole 50 = .ok (.iload_n 3, 1) := by decide +kernel
theorem dX1_makesWhole_51 : decode cX1_makesWhole 51 = .ok (.bipush 63, 2) := by decide +kernel
theorem dX1_makesWhole_53 : decode cX1_makesWhole 53 = .ok (.if_icmp .ne 7, 3) := by decide +kernel
theorem dX1_makesWhole_56 : decode cX1_makesWhole 56 = .ok (.iconst 1, 1) := by decide +kernel
theorem dX1_makesWhole_57 : decode cX1_makesWhole 57 = .ok (.goto 4, 3) := by decide +kernel
theorem dX1_makesWhole_60 : decode cX1_makesWhole 60 = .ok (.iconst 0, 1) := by decide +kernel
theorem dX1_makesWhole_61 : decode cX1_makesWhole 61 = .ok (.ireturn, 1) := by decide +kernel
set_option maxRecDepth 20000 in
theorem ggX1_costOfChosen_X0_costOf : GoodIn wsX1_costOfChosen wsX0_costOf := goodIn_r _ [7, 8, 21, 22, 23, 24, 25, 26, 27, 28, 29, 30, 31, 32] (by decide +kernel) (by decide +kernel)
set_option maxRecDepth 20000 in
theorem gX1_costOfChosen_X0_costOf : GoodIn wsX1_costOfChosen (wsV RX1 85 RX0 yX0_costOf wsX0_costOf) := goodIn_app (goodIn_of _ (by decide +kernel)) ggX1_costOfChosen_X0_costOf
theorem dX1_costOfChosen_0 : decode cX1_costOfChosen 0 = .ok (.iconst 0, 1) := by decide +kernel
theorem dX1_costOfChosen_1 : decode cX1_costOfChosen 1 = .ok (.istore_n 2, 1) := by decide +kernel
theorem dX1_costOfChosen_2 : decode cX1_costOfChosen 2 = .ok (.iconst 0, 1) := by decide +kernel
theorem dX1_costOfChosen_3 : decode cX1_costOfChosen 3 = .ok (.istore_n 3, 1) := by decide +kernel
theorem dX1_costOfChosen_4 : decode cX1_costOfChosen 4 = .ok (.iload_n 3, 1) := by decide +kernel
theorem dX1_costOfChosen_5 : decode cX1_costOfChosen 5 = .ok (.aload_n 0, 1) := by decide +kernel
theorem dX1_costOfChosen_6 : decode cX1_costOfChosen 6 = .ok (.getfield 10, 3) := by decide +kernel
theorem dX1_costOfChosen_9 : decode cX1_costOfChosen 9 = .ok (.getfield 129, 3) := by decide +kernel
theorem dX1_costOfChosen_12 : decode cX1_costOfChosen 12 = .ok (.if_icmp .ge 29, 3) := by decide +kernel
theorem dX1_costOfChosen_15 : decode cX1_costOfChosen 15 = .ok (.iload_n 1, 1) := by decide +kernel
theorem dX1_costOfChosen_16 : decode cX1_costOfChosen 16 = .ok (.iload_n 3, 1) := by decide +kernel
theorem dX1_costOfChosen_17 : decode cX1_costOfChosen 17 = .ok (.ishr, 1) := by decide +kernel
theorem dX1_costOfChosen_18 : decode cX1_costOfChosen 18 = .ok (.iconst 1, 1) := by decide +kernel
theorem dX1_costOfChosen_19 : decode cX1_costOfChosen 19 = .ok (.iand, 1) := by decide +kernel
theorem dX1_costOfChosen_20 : decode cX1_costOfChosen 20 = .ok (.iconst 1, 1) := by decide +kernel
theorem dX1_costOfChosen_21 : decode cX1_costOfChosen 21 = .ok (.if_icmp .ne 14, 3) := by decide +kernel
theorem dX1_costOfChosen_24 : decode cX1_costOfChosen 24 = .ok (.iload_n 2, 1) := by decide +kernel
theorem dX1_costOfChosen_25 : decode cX1_costOfChosen 25 = .ok (.aload_n 0, 1) := by decide +kernel
theorem dX1_costOfChosen_26 : decode cX1_costOfChosen 26 = .ok (.getfield 10, 3) := by decide +kernel
theorem dX1_costOfChosen_29 : decode cX1_costOfChosen 29 = .ok (.iload_n 3, 1) := by decide +kernel
theorem dX1_costOfChosen_30 : decode cX1_costOfChosen 30 = .ok (.invokevirtual 85, 3) := by decide +kernel
theorem dX1_costOfChosen_33 : decode cX1_costOfChosen 33 = .ok (.iadd, 1) := by decide +kernel
theorem dX1_costOfChosen_34 : decode cX1_costOfChosen 34 = .ok (.istore_n 2, 1) := by decide +kernel
theorem dX1_costOfChosen_35 : decode cX1_costOfChosen 35 = .ok (.iinc 3 1, 3) := by decide +kernel
theorem dX1_costOfChosen_38 : decode cX1_costOfChosen 38 = .ok (.goto (-34), 3) := by decide +kernel
theorem dX1_costOfChosen_41 : decode cX1_costOfChosen 41 = .ok (.iload_n 2, 1) := by decide +kernel
theorem dX1_costOfChosen_42 : decode cX1_costOfChosen 42 = .ok (.ireturn, 1) := by decide +kernel
set_option maxRecDepth 20000 in
theorem ggX1_fewestRockets_J6_bitCount_0f7a4 : GoodIn wsX1_fewestRockets wsJ6_bitCount_0f7a4 := goodIn_r _ [7, 8, 9, 10] (by decide +kernel) (by decide +kernel)
set_option maxRecDepth 20000 in
theorem gX1_fewestRockets_J6_bitCount_0f7a4 : GoodIn wsX1_fewestRockets (va_wsS RX1 135 yJ6_bitCount_0f7a4 wsJ6_bitCount_0f7a4) := goodIn_app (goodIn_of _ (by decide +kernel)) ggX1_fewestRockets_J6_bitCount_0f7a4
set_option maxRecDepth 20000 in
theorem ggX1_fewestRockets_X1_makesWhole : GoodIn wsX1_fewestRockets wsX1_makesWhole := goodIn_r _ [15, 1, 2, 16, 17, 18, 19, 20, 21, 22, 23, 24, 25, 26, 27, 28, 29, 30, 31, 32, 33, 34, 35, 36, 37, 38, 39, 40, 41, 42, 43, 44, 45, 46] (by decide +kernel) (by decide +kernel)
set_option maxRecDepth 20000 in
theorem gX1_fewestRockets_X1_makesWhole : GoodIn wsX1_fewestRockets (wsV RX1 297 RX1 yX1_makesWhole wsX1_makesWhole) := goodIn_app (goodIn_of _ (by decide +kernel)) ggX1_fewestRockets_X1_makesWhole
theorem dX1_fewestRockets_0 : decode cX1_fewestRockets 0 = .ok (.bipush (-9), 2) := by decide +kernel
theorem dX1_fewestRockets_2 : decode cX1_fewestRockets 2 = .ok (.istore_n 2, 1) := by decide +kernel
theorem dX1_fewestRockets_3 : decode cX1_fewestRockets 3 = .ok (.bipush 10, 2) := by decide +kernel
theorem dX1_fewestRockets_5 : decode cX1_fewestRockets 5 = .ok (.istore_n 3, 1) := by decide +kernel
theorem dX1_fewestRockets_6 : decode cX1_fewestRockets 6 = .ok (.iconst 0, 1) := by decide +kernel
theorem dX1_fewestRockets_7 : decode cX1_fewestRockets 7 = .ok (.istore 4, 2) := by decide +kernel
theorem dX1_fewestRockets_9 : decode cX1_fewestRockets 9 = .ok (.iload 4, 2) := by decide +kernel
theorem dX1_fewestRockets_11 : decode cX1_fewestRockets 11 = .ok (.iconst 1, 1) := by decide +kernel
theorem dX1_fewestRockets_12 : decode cX1_fewestRockets 12 = .ok (.aload_n 0, 1) := by decide +kernel
theorem dX1_fewestRockets_13 : decode cX1_fewestRockets 13 = .ok (.getfield 10, 3) := by decide +kernel
theorem dX1_fewestRockets_16 : decode cX1_fewestRockets 16 = .ok (.getfield 129, 3) := by decide +kernel
theorem dX1_fewestRockets_19 : decode cX1_fewestRockets 19 = .ok (.ishl, 1) := by decide +kernel
theorem dX1_fewestRockets_20 : decode cX1_fewestRockets 20 = .ok (.if_icmp .ge 62, 3) := by decide +kernel
theorem dX1_fewestRockets_23 : decode cX1_fewestRockets 23 = .ok (.iload 4, 2) := by decide +kernel
theorem dX1_fewestRockets_25 : decode cX1_fewestRockets 25 = .ok (.invokestatic 135, 3) := by decide +kernel
theorem dX1_fewestRockets_28 : decode cX1_fewestRockets 28 = .ok (.iload_n 3, 1) := by decide +kernel
theorem dX1_fewestRockets_29 : decode cX1_fewestRockets 29 = .ok (.if_icmp .ge 7, 3) := by decide +kernel
theorem dX1_fewestRockets_32 : decode cX1_fewestRockets 32 = .ok (.iconst 1, 1) := by decide +kernel
theorem dX1_fewestRockets_33 : decode cX1_fewestRockets 33 = .ok (.goto 4, 3) := by decide +kernel
theorem dX1_fewestRockets_36 : decode cX1_fewestRockets 36 = .ok (.iconst 0, 1) := by decide +kernel
theorem dX1_fewestRockets_37 : decode cX1_fewestRockets 37 = .ok (.istore 5, 2) := by decide +kernel
theorem dX1_fewestRockets_39 : decode cX1_fewestRockets 39 = .ok (.iload 5, 2) := by decide +kernel
theorem dX1_fewestRockets_41 : decode cX1_fewestRockets 41 = .ok (.ifCond .eq 35, 3) := by decide +kernel
theorem dX1_fewestRockets_44 : decode cX1_fewestRockets 44 = .ok (.iload 4, 2) := by decide +kernel
theorem dX1_fewestRockets_46 : decode cX1_fewestRockets 46 = .ok (.aload_n 0, 1) := by decide +kernel
theorem dX1_fewestRockets_47 : decode cX1_fewestRockets 47 = .ok (.getfield 10, 3) := by decide +kernel
theorem dX1_fewestRockets_50 : decode cX1_fewestRockets 50 = .ok (.getfield 132, 3) := by decide +kernel
theorem dX1_fewestRockets_53 : decode cX1_fewestRockets 53 = .ok (.iand, 1) := by decide +kernel
theorem dX1_fewestRockets_54 : decode cX1_fewestRockets 54 = .ok (.ifCond .ne 22, 3) := by decide +kernel
theorem dX1_fewestRockets_57 : decode cX1_fewestRockets 57 = .ok (.aload_n 0, 1) := by decide +kernel
theorem dX1_fewestRockets_58 : decode cX1_fewestRockets 58 = .ok (.iload_n 1, 1) := by decide +kernel
theorem dX1_fewestRockets_59 : decode cX1_fewestRockets 59 = .ok (.iload 4, 2) := by decide +kernel
theorem dX1_fewestRockets_61 : decode cX1_fewestRockets 61 = .ok (.invokevirtual 297, 3) := by decide +kernel
theorem dX1_fewestRockets_64 : decode cX1_fewestRockets 64 = .ok (.ifCond .eq 12, 3) := by decide +kernel
theorem dX1_fewestRockets_67 : decode cX1_fewestRockets 67 = .ok (.iload 4, 2) := by decide +kernel
theorem dX1_fewestRockets_69 : decode cX1_fewestRockets 69 = .ok (.invokestatic 135, 3) := by decide +kernel
theorem dX1_fewestRockets_72 : decode cX1_fewestRockets 72 = .ok (.istore_n 3, 1) := by decide +kernel
theorem dX1_fewestRockets_73 : decode cX1_fewestRockets 73 = .ok (.iload 4, 2) := by decide +kernel
theorem dX1_fewestRockets_75 : decode cX1_fewestRockets 75 = .ok (.istore_n 2, 1) := by decide +kernel
theorem dX1_fewestRockets_76 : decode cX1_fewestRockets 76 = .ok (.iinc 4 1, 3) := by decide +kernel
theorem dX1_fewestRockets_79 : decode cX1_fewestRockets 79 = .ok (.goto (-70), 3) := by decide +kernel
theorem dX1_fewestRockets_82 : decode cX1_fewestRockets 82 = .ok (.iload_n 2, 1) := by decide +kernel
theorem dX1_fewestRockets_83 : decode cX1_fewestRockets 83 = .ok (.ireturn, 1) := by decide +kernel
set_option maxRecDepth 20000 in
theorem ggX1_leastCost_X1_makesWhole : GoodIn wsX1_leastCost wsX1_makesWhole := goodIn_r _ [8, 1, 2, 9, 10, 11, 12, 13, 14, 15, 25, 26, 27, 28, 29, 30, 31, 32, 33, 34, 35, 36, 37, 38, 39, 40, 41, 42, 43, 44, 45, 46, 47, 48] (by decide +kernel) (by decide +kernel)
set_option maxRecDepth 20000 in
theorem gX1_leastCost_X1_makesWhole : GoodIn wsX1_leastCost (wsV RX1 297 RX1 yX1_makesWhole wsX1_makesWhole) := goodIn_app (goodIn_of _ (by decide +kernel)) ggX1_leastCost_X1_makesWhole
set_option maxRecDepth 20000 in
theorem ggX1_leastCost_X1_costOfChosen : GoodIn wsX1_leastCost wsX1_costOfChosen := goodIn_r _ [19, 1, 2, 20, 21, 22, 13, 23, 24, 25, 26, 27, 28, 29, 30, 31, 32, 33, 34, 35, 36, 37, 38, 39, 40, 41, 42, 43, 44, 45, 46, 47, 48] (by decide +kernel) (by decide +kernel)
set_option maxRecDepth 20000 in
theorem gX1_leastCost_X1_costOfChosen : GoodIn wsX1_leastCost (wsV RX1 300 RX1 yX1_costOfChosen wsX1_costOfChosen) := goodIn_app (goodIn_of _ (by decide +kernel)) ggX1_leastCost_X1_costOfChosen
theorem dX1_leastCost_0 : decode cX1_leastCost 0 = .ok (.bipush (-9), 2) := by decide +kernel
theorem dX1_leastCost_2 : decode cX1_leastCost 2 = .ok (.istore_n 2, 1) := by decide +kernel
theorem dX1_leastCost_3 : decode cX1_leastCost 3 = .ok (.iconst 0, 1) := by decide +kernel
theorem dX1_leastCost_4 : decode cX1_leastCost 4 = .ok (.istore_n 3, 1) := by decide +kernel
theorem dX1_leastCost_5 : decode cX1_leastCost 5 = .ok (.iload_n 3, 1) := by decide +kernel
theorem dX1_leastCost_6 : decode cX1_leastCost 6 = .ok (.iconst 1, 1) := by decide +kernel
theorem dX1_leastCost_7 : decode cX1_leastCost 7 = .ok (.aload_n 0, 1) := by decide +kernel
theorem dX1_leastCost_8 : decode cX1_leastCost 8 = .ok (.getfield 10, 3) := by decide +kernel
theorem dX1_leastCost_11 : decode cX1_leastCost 11 = .ok (.getfield 129, 3) := by decide +kernel
theorem dX1_leastCost_14 : decode cX1_leastCost 14 = .ok (.ishl, 1) := by decide +kernel
theorem dX1_leastCost_15 : decode cX1_leastCost 15 = .ok (.if_icmp .ge 52, 3) := by decide +kernel
theorem dX1_leastCost_18 : decode cX1_leastCost 18 = .ok (.iload_n 3, 1) := by decide +kernel
theorem dX1_leastCost_19 : decode cX1_leastCost 19 = .ok (.aload_n 0, 1) := by decide +kernel
theorem dX1_leastCost_20 : decode cX1_leastCost 20 = .ok (.getfield 10, 3) := by decide +kernel
theorem dX1_leastCost_23 : decode cX1_leastCost 23 = .ok (.getfield 132, 3) := by decide +kernel
theorem dX1_leastCost_26 : decode cX1_leastCost 26 = .ok (.iand, 1) := by decide +kernel
theorem dX1_leastCost_27 : decode cX1_leastCost 27 = .ok (.ifCond .ne 34, 3) := by decide +kernel
theorem dX1_leastCost_30 : decode cX1_leastCost 30 = .ok (.aload_n 0, 1) := by decide +kernel
theorem dX1_leastCost_31 : decode cX1_leastCost 31 = .ok (.iload_n 1, 1) := by decide +kernel
theorem dX1_leastCost_32 : decode cX1_leastCost 32 = .ok (.iload_n 3, 1) := by decide +kernel
theorem dX1_leastCost_33 : decode cX1_leastCost 33 = .ok (.invokevirtual 297, 3) := by decide +kernel
theorem dX1_leastCost_36 : decode cX1_leastCost 36 = .ok (.ifCond .eq 25, 3) := by decide +kernel
theorem dX1_leastCost_39 : decode cX1_leastCost 39 = .ok (.aload_n 0, 1) := by decide +kernel
theorem dX1_leastCost_40 : decode cX1_leastCost 40 = .ok (.iload_n 3, 1) := by decide +kernel
theorem dX1_leastCost_41 : decode cX1_leastCost 41 = .ok (.invokevirtual 300, 3) := by decide +kernel
theorem dX1_leastCost_44 : decode cX1_leastCost 44 = .ok (.istore 4, 2) := by decide +kernel
theorem dX1_leastCost_46 : decode cX1_leastCost 46 = .ok (.iload_n 2, 1) := by decide +kernel
theorem dX1_leastCost_47 : decode cX1_leastCost 47 = .ok (.bipush (-9), 2) := by decide +kernel
theorem dX1_leastCost_49 : decode cX1_leastCost 49 = .ok (.if_icmp .eq 9, 3) := by decide +kernel
theorem dX1_leastCost_52 : decode cX1_leastCost 52 = .ok (.iload 4, 2) := by decide +kernel
theorem dX1_leastCost_54 : decode cX1_leastCost 54 = .ok (.iload_n 2, 1) := by decide +kernel
theorem dX1_leastCost_55 : decode cX1_leastCost 55 = .ok (.if_icmp .ge 6, 3) := by decide +kernel
theorem dX1_leastCost_58 : decode cX1_leastCost 58 = .ok (.iload 4, 2) := by decide +kernel
theorem dX1_leastCost_60 : decode cX1_leastCost 60 = .ok (.istore_n 2, 1) := by decide +kernel
theorem dX1_leastCost_61 : decode cX1_leastCost 61 = .ok (.iinc 3 1, 3) := by decide +kernel
theorem dX1_leastCost_64 : decode cX1_leastCost 64 = .ok (.goto (-59), 3) := by decide +kernel
theorem dX1_leastCost_67 : decode cX1_leastCost 67 = .ok (.iload_n 2, 1) := by decide +kernel
theorem dX1_leastCost_68 : decode cX1_leastCost 68 = .ok (.ireturn, 1) := by decide +kernel
set_option maxRecDepth 20000 in
theorem ggX1_bestToSpend_X1_thinkOn : GoodIn wsX1_bestToSpend wsX1_thinkOn := goodIn_r _ [8, 1, 2, 9, 10, 11, 12, 13, 14, 15, 16, 17, 18, 19, 20, 21, 22, 23, 24, 25, 26, 27, 28, 29, 30, 31, 32, 33, 34, 35, 36, 37, 38, 39, 40, 41, 42, 43, 44, 45, 46, 47, 48, 49, 50, 51, 52, 53, 54, 55, 56, 57, 58, 59, 60, 61, 62, 63, 64, 65, 66, 67, 68, 69, 70, 71, 72, 73, 74, 75, 76, 77, 101, 102, 103, 104, 105, 106, 107, 108, 109, 110, 111, 112, 113, 114, 115, 116, 117, 118, 119, 120, 121, 122, 123, 124] (by decide +kernel) (by decide +kernel)
set_option maxRecDepth 20000 in
theorem gX1_bestToSpend_X1_thinkOn : GoodIn wsX1_bestToSpend (wsV RX1 153 RX1 yX1_thinkOn wsX1_thinkOn) := goodIn_app (goodIn_of _ (by decide +kernel)) ggX1_bestToSpend_X1_thinkOn
set_option maxRecDepth 20000 in
theorem ggX1_bestToSpend_X0_countWords : GoodIn wsX1_bestToSpend wsX0_countWords := goodIn_r _ [81, 23, 82, 83, 84, 12, 85, 26, 86, 87, 88, 89, 90, 91, 92, 113, 114, 115, 116, 117, 118, 119, 120, 121, 122, 123, 124] (by decide +kernel) (by decide +kernel)
set_option maxRecDepth 20000 in
theorem gX1_bestToSpend_X0_countWords : GoodIn wsX1_bestToSpend (wsV RX1 245 RX0 yX0_countWords wsX0_countWords) := goodIn_app (goodIn_of _ (by decide +kernel)) ggX1_bestToSpend_X0_countWords
set_option maxRecDepth 20000 in
theorem ggX1_bestToSpend_X0_canSend : GoodIn wsX1_bestToSpend wsX0_canSend := goodIn_r _ [45, 27, 46, 47, 48, 12, 49, 14, 50, 51, 52, 53, 22, 54, 55, 56, 57, 15, 113, 114, 115, 116, 117, 118, 119, 120, 121, 122, 123, 124] (by decide +kernel) (by decide +kernel)
set_option maxRecDepth 20000 in
theorem gX1_bestToSpend_X0_canSend : GoodIn wsX1_bestToSpend (wsV RX1 115 RX0 yX0_canSend wsX0_canSend) := goodIn_app (goodIn_of _ (by decide +kernel)) ggX1_bestToSpend_X0_canSend
set_option maxRecDepth 20000 in
theorem ggX1_bestToSpend_X0_isSent : GoodIn wsX1_bestToSpend wsX0_isSent := goodIn_r _ [53, 22, 113, 114, 115, 116, 117, 118, 119, 120, 121, 122, 123, 124] (by decide +kernel) (by decide +kernel)
set_option maxRecDepth 20000 in
theorem gX1_bestToSpend_X0_isSent : GoodIn wsX1_bestToSpend (wsV RX1 82 RX0 yX0_isSent wsX0_isSent) := goodIn_app (goodIn_of _ (by decide +kernel)) ggX1_bestToSpend_X0_isSent
set_option maxRecDepth 20000 in
theorem ggX1_bestToSpend_X1_wordsHadBySpending : GoodIn wsX1_bestToSpend wsX1_wordsHadBySpending := goodIn_r _ [98, 1, 2, 9, 10, 11, 12, 13, 14, 15, 16, 17, 18, 19, 20, 21, 22, 23, 24, 25, 26, 27, 28, 29, 99, 59, 60, 61, 54, 55, 56, 57, 62, 63, 64, 65, 66, 67, 68, 69, 70, 71, 72, 73, 74, 75, 76, 77, 100, 30, 31, 32, 33, 34, 35, 36, 37, 38, 39, 40, 41, 42, 43, 44, 45, 46, 47, 48, 49, 50, 51, 52, 53, 58, 78, 79, 80, 81, 82, 83, 84, 85, 86, 87, 88, 89, 90, 91, 92, 101, 102, 103, 104, 105, 106, 107, 108, 109, 110, 111, 112, 113, 114, 115, 116, 117, 118, 119, 120, 121, 122, 123, 124] (by decide +kernel) (by decide +kernel)
set_option maxRecDepth 20000 in
theorem gX1_bestToSpend_X1_wordsHadBySpending : GoodIn wsX1_bestToSpend (wsV RX1 303 RX1 yX1_wordsHadBySpending wsX1_wordsHadBySpending) := goodIn_app (goodIn_of _ (by decide +kernel)) ggX1_bestToSpend_X1_wordsHadBySpending
theorem dX1_bestToSpend_0 : decode cX1_bestToSpend 0 = .ok (.aload_n 0, 1) := by decide +kernel
theorem dX1_bestToSpend_1 : decode cX1_bestToSpend 1 = .ok (.iload_n 1, 1) := by decide +kernel
theorem dX1_bestToSpend_2 : decode cX1_bestToSpend 2 = .ok (.invokevirtual 153, 3) := by decide +kernel
theorem dX1_bestToSpend_5 : decode cX1_bestToSpend 5 = .ok (.aload_n 0, 1) := by decide +kernel
theorem dX1_bestToSpend_6 : decode cX1_bestToSpend 6 = .ok (.getfield 16, 3) := by decide +kernel
theorem dX1_bestToSpend_9 : decode cX1_bestToSpend 9 = .ok (.invokevirtual 245, 3) := by decide +kernel
theorem dX1_bestToSpend_12 : decode cX1_bestToSpend 12 = .ok (.istore_n 3, 1) := by decide +kernel
theorem dX1_bestToSpend_13 : decode cX1_bestToSpend 13 = .ok (.bipush (-9), 2) := by decide +kernel
theorem dX1_bestToSpend_15 : decode cX1_bestToSpend 15 = .ok (.istore 4, 2) := by decide +kernel
theorem dX1_bestToSpend_17 : decode cX1_bestToSpend 17 = .ok (.iconst 0, 1) := by decide +kernel
theorem dX1_bestToSpend_18 : decode cX1_bestToSpend 18 = .ok (.istore 5, 2) := by decide +kernel
theorem dX1_bestToSpend_20 : decode cX1_bestToSpend 20 = .ok (.iload 5, 2) := by decide +kernel
theorem dX1_bestToSpend_22 : decode cX1_bestToSpend 22 = .ok (.aload_n 0, 1) := by decide +kernel
theorem dX1_bestToSpend_23 : decode cX1_bestToSpend 23 = .ok (.getfield 10, 3) := by decide +kernel
theorem dX1_bestToSpend_26 : decode cX1_bestToSpend 26 = .ok (.getfield 129, 3) := by decide +kernel
theorem dX1_bestToSpend_29 : decode cX1_bestToSpend 29 = .ok (.if_icmp .ge 63, 3) := by decide +kernel
theorem dX1_bestToSpend_32 : decode cX1_bestToSpend 32 = .ok (.iload_n 2, 1) := by decide +kernel
theorem dX1_bestToSpend_33 : decode cX1_bestToSpend 33 = .ok (.ifCond .eq 18, 3) := by decide +kernel
theorem dX1_bestToSpend_36 : decode cX1_bestToSpend 36 = .ok (.aload_n 0, 1) := by decide +kernel
theorem dX1_bestToSpend_37 : decode cX1_bestToSpend 37 = .ok (.getfield 10, 3) := by decide +kernel
theorem dX1_bestToSpend_40 : decode cX1_bestToSpend 40 = .ok (.iload 5, 2) := by decide +kernel
theorem dX1_bestToSpend_42 : decode cX1_bestToSpend 42 = .ok (.invokevirtual 115, 3) := by decide +kernel
theorem dX1_bestToSpend_45 : decode cX1_bestToSpend 45 = .ok (.ifCond .eq 41, 3) := by decide +kernel
theorem dX1_bestToSpend_48 : decode cX1_bestToSpend 48 = .ok (.goto 15, 3) := by decide +kernel
theorem dX1_bestToSpend_51 : decode cX1_bestToSpend 51 = .ok (.aload_n 0, 1) := by decide +kernel
theorem dX1_bestToSpend_52 : decode cX1_bestToSpend 52 = .ok (.getfield 10, 3) := by decide +kernel
theorem dX1_bestToSpend_55 : decode cX1_bestToSpend 55 = .ok (.iload 5, 2) := by decide +kernel
theorem dX1_bestToSpend_57 : decode cX1_bestToSpend 57 = .ok (.invokevirtual 82, 3) := by decide +kernel
theorem dX1_bestToSpend_60 : decode cX1_bestToSpend 60 = .ok (.ifCond .ne 26, 3) := by decide +kernel
theorem dX1_bestToSpend_63 : decode cX1_bestToSpend 63 = .ok (.aload_n 0, 1) := by decide +kernel
theorem dX1_bestToSpend_64 : decode cX1_bestToSpend 64 = .ok (.iload 5, 2) := by decide +kernel
theorem dX1_bestToSpend_66 : decode cX1_bestToSpend 66 = .ok (.iload_n 1, 1) := by decide +kernel
theorem dX1_bestToSpend_67 : decode cX1_bestToSpend 67 = .ok (.iload_n 2, 1) := by decide +kernel
theorem dX1_bestToSpend_68 : decode cX1_bestToSpend 68 = .ok (.invokevirtual 303, 3) := by decide +kernel
theorem dX1_bestToSpend_71 : decode cX1_bestToSpend 71 = .ok (.istore 6, 2) := by decide +kernel
theorem dX1_bestToSpend_73 : decode cX1_bestToSpend 73 = .ok (.iload 6, 2) := by decide +kernel
theorem dX1_bestToSpend_75 : decode cX1_bestToSpend 75 = .ok (.iload_n 3, 1) := by decide +kernel
theorem dX1_bestToSpend_76 : decode cX1_bestToSpend 76 = .ok (.if_icmp .le 10, 3) := by decide +kernel
theorem dX1_bestToSpend_79 : decode cX1_bestToSpend 79 = .ok (.iload 6, 2) := by decide +kernel
theorem dX1_bestToSpend_81 : decode cX1_bestToSpend 81 = .ok (.istore_n 3, 1) := by decide +kernel
theorem dX1_bestToSpend_82 : decode cX1_bestToSpend 82 = .ok (.iload 5, 2) := by decide +kernel
theorem dX1_bestToSpend_84 : decode cX1_bestToSpend 84 = .ok (.istore 4, 2) := by decide +kernel
theorem dX1_bestToSpend_86 : decode cX1_bestToSpend 86 = .ok (.iinc 5 1, 3) := by decide +kernel
theorem dX1_bestToSpend_89 : decode cX1_bestToSpend 89 = .ok (.goto (-69), 3) := by decide +kernel
theorem dX1_bestToSpend_92 : decode cX1_bestToSpend 92 = .ok (.iload 4, 2) := by decide +kernel
theorem dX1_bestToSpend_94 : decode cX1_bestToSpend 94 = .ok (.ireturn, 1) := by decide +kernel
set_option maxRecDepth 20000 in
theorem ggX1_wordsHadBySpending_X0_copyFrom : GoodIn wsX1_wordsHadBySpending wsX0_copyFrom := goodIn_r _ [7, 8, 9, 10, 11, 12, 13, 14, 15, 16, 17, 18, 19, 20, 21, 22, 23, 101, 102, 103, 104, 105, 106, 107, 108, 109, 110, 111, 112] (by decide +kernel) (by decide +kernel)
set_option maxRecDepth 20000 in
theorem gX1_wordsHadBySpending_X0_copyFrom : GoodIn wsX1_wordsHadBySpending (wsV RX1 59 RX0 yX0_copyFrom wsX0_copyFrom) := goodIn_app (goodIn_of _ (by decide +kernel)) ggX1_wordsHadBySpending_X0_copyFrom
set_option maxRecDepth 20000 in
theorem ggX1_wordsHadBySpending_X0_sendUp : GoodIn wsX1_wordsHadBySpending wsX0_sendUp := goodIn_r _ [27, 21, 17, 15, 19, 20, 28, 29, 30, 6, 31, 9, 32, 33, 34, 35, 16, 36, 37, 38, 39, 18, 40, 41, 42, 43, 22, 44, 45, 46, 47, 14, 101, 102, 103, 104, 105, 106, 107, 108, 109, 110, 111, 112] (by decide +kernel) (by decide +kernel)
set_option maxRecDepth 20000 in
theorem gX1_wordsHadBySpending_X0_sendUp : GoodIn wsX1_wordsHadBySpending (wsV RX1 118 RX0 yX0_sendUp wsX0_sendUp) := goodIn_app (goodIn_of _ (by decide +kernel)) ggX1_wordsHadBySpending_X0_sendUp
set_option maxRecDepth 20000 in
theorem ggX1_wordsHadBySpending_X0_throwAway : GoodIn wsX1_wordsHadBySpending wsX0_throwAway := goodIn_r _ [35, 16, 101, 102, 103, 104, 105, 106, 107, 108, 109, 110, 111, 112] (by decide +kernel) (by decide +kernel)
set_option maxRecDepth 20000 in
theorem gX1_wordsHadBySpending_X0_throwAway : GoodIn wsX1_wordsHadBySpending (wsV RX1 307 RX0 yX0_throwAway wsX0_throwAway) := goodIn_app (goodIn_of _ (by decide +kernel)) ggX1_wordsHadBySpending_X0_throwAway
set_option maxRecDepth 20000 in
theorem ggX1_wordsHadBySpending_X0_passNights : GoodIn wsX1_wordsHadBySpending wsX0_passNights := goodIn_r _ [52, 23, 53, 54, 55, 6, 56, 17, 20, 57, 58, 59, 60, 8, 61, 62, 63, 64, 21, 65, 66, 67, 68, 69, 70, 71, 72, 16, 28, 29, 30, 31, 9, 73, 25, 26, 27, 15, 19, 32, 33, 34, 35, 36, 37, 38, 39, 18, 40, 41, 42, 43, 22, 44, 45, 46, 47, 14, 101, 102, 103, 104, 105, 106, 107, 108, 109, 110, 111, 112] (by decide +kernel) (by decide +kernel)
set_option maxRecDepth 20000 in
theorem gX1_wordsHadBySpending_X0_passNights : GoodIn wsX1_wordsHadBySpending (wsV RX1 150 RX0 yX0_passNights wsX0_passNights) := goodIn_app (goodIn_of _ (by decide +kernel)) ggX1_wordsHadBySpending_X0_passNights
set_option maxRecDepth 20000 in
theorem ggX1_wordsHadBySpending_X0_countWords : GoodIn wsX1_wordsHadBySpending wsX0_countWords := goodIn_r _ [77, 17, 78, 79, 80, 6, 81, 20, 82, 83, 84, 85, 86, 87, 88, 101, 102, 103, 104, 105, 106, 107, 108, 109, 110, 111, 112] (by decide +kernel) (by decide +kernel)
set_option maxRecDepth 20000 in
theorem gX1_wordsHadBySpending_X0_countWords : GoodIn wsX1_wordsHadBySpending (wsV RX1 245 RX0 yX0_countWords wsX0_countWords) := goodIn_app (goodIn_of _ (by decide +kernel)) ggX1_wordsHadBySpending_X0_countWords
theorem dX1_wordsHadBySpending_0 : decode cX1_wordsHadBySpending 0 = .ok (.aload_n 0, 1) := by decide +kernel
theorem dX1_wordsHadBySpending_1 : decode cX1_wordsHadBySpending 1 = .ok (.getfield 16, 3) := by decide +kernel
theorem dX1_wordsHadBySpending_4 : decode cX1_wordsHadBySpending 4 = .ok (.aload_n 0, 1) := by decide +kernel
theorem dX1_wordsHadBySpending_5 : decode cX1_wordsHadBySpending 5 = .ok (.getfield 10, 3) := by decide +kernel
theorem dX1_wordsHadBySpending_8 : decode cX1_wordsHadBySpending 8 = .ok (.invokevirtual 59, 3) := by decide +kernel
theorem dX1_wordsHadBySpending_11 : decode cX1_wordsHadBySpending 11 = .ok (.iload_n 3, 1) := by decide +kernel
theorem dX1_wordsHadBySpending_12 : decode cX1_wordsHadBySpending 12 = .ok (.ifCond .eq 16, 3) := by decide +kernel
theorem dX1_wordsHadBySpending_15 : decode cX1_wordsHadBySpending 15 = .ok (.aload_n 0, 1) := by decide +kernel
theorem dX1_wordsHadBySpending_16 : decode cX1_wordsHadBySpending 16 = .ok (.getfield 16, 3) := by decide +kernel
theorem dX1_wordsHadBySpending_19 : decode cX1_wordsHadBySpending 19 = .ok (.iload_n 1, 1) := by decide +kernel
theorem dX1_wordsHadBySpending_20 : decode cX1_wordsHadBySpending 20 = .ok (.bipush 31, 2) := by decide +kernel
theorem dX1_wordsHadBySpending_22 : decode cX1_wordsHadBySpending 22 = .ok (.invokevirtual 118, 3) := by decide +kernel
theorem dX1_wordsHadBySpending_25 : decode cX1_wordsHadBySpending 25 = .ok (.goto 11, 3) := by decide +kernel
theorem dX1_wordsHadBySpending_28 : decode cX1_wordsHadBySpending 28 = .ok (.aload_n 0, 1) := by decide +kernel
theorem dX1_wordsHadBySpending_29 : decode cX1_wordsHadBySpending 29 = .ok (.getfield 16, 3) := by decide +kernel
theorem dX1_wordsHadBySpending_32 : decode cX1_wordsHadBySpending 32 = .ok (.iload_n 1, 1) := by decide +kernel
theorem dX1_wordsHadBySpending_33 : decode cX1_wordsHadBySpending 33 = .ok (.invokevirtual 307, 3) := by decide +kernel
theorem dX1_wordsHadBySpending_36 : decode cX1_wordsHadBySpending 36 = .ok (.aload_n 0, 1) := by decide +kernel
theorem dX1_wordsHadBySpending_37 : decode cX1_wordsHadBySpending 37 = .ok (.getfield 16, 3) := by decide +kernel
theorem dX1_wordsHadBySpending_40 : decode cX1_wordsHadBySpending 40 = .ok (.iload_n 2, 1) := by decide +kernel
theorem dX1_wordsHadBySpending_41 : decode cX1_wordsHadBySpending 41 = .ok (.bipush 31, 2) := by decide +kernel
theorem dX1_wordsHadBySpending_43 : decode cX1_wordsHadBySpending 43 = .ok (.invokevirtual 150, 3) := by decide +kernel
theorem dX1_wordsHadBySpending_46 : decode cX1_wordsHadBySpending 46 = .ok (.aload_n 0, 1) := by decide +kernel
theorem dX1_wordsHadBySpending_47 : decode cX1_wordsHadBySpending 47 = .ok (.getfield 16, 3) := by decide +kernel
theorem dX1_wordsHadBySpending_50 : decode cX1_wordsHadBySpending 50 = .ok (.invokevirtual 245, 3) := by decide +kernel
theorem dX1_wordsHadBySpending_53 : decode cX1_wordsHadBySpending 53 = .ok (.ireturn, 1) := by decide +kernel
set_option maxRecDepth 20000 in
theorem ggX1_longestDark_X0_darkOf : GoodIn wsX1_longestDark wsX0_darkOf := goodIn_r _ [7, 8, 9, 22, 23, 24, 25, 26, 27, 28, 29, 30, 31, 32, 33] (by decide +kernel) (by decide +kernel)
set_option maxRecDepth 20000 in
theorem gX1_longestDark_X0_darkOf : GoodIn wsX1_longestDark (wsV RX1 91 RX0 yX0_darkOf wsX0_darkOf) := goodIn_app (goodIn_of _ (by decide +kernel)) ggX1_longestDark_X0_darkOf
theorem dX1_longestDark_0 : decode cX1_longestDark 0 = .ok (.bipush (-9), 2) := by decide +kernel
theorem dX1_longestDark_2 : decode cX1_longestDark 2 = .ok (.istore_n 1, 1) := by decide +kernel
theorem dX1_longestDark_3 : decode cX1_longestDark 3 = .ok (.iconst (-1), 1) := by decide +kernel
theorem dX1_longestDark_4 : decode cX1_longestDark 4 = .ok (.istore_n 2, 1) := by decide +kernel
theorem dX1_longestDark_5 : decode cX1_longestDark 5 = .ok (.iconst 0, 1) := by decide +kernel
theorem dX1_longestDark_6 : decode cX1_longestDark 6 = .ok (.istore_n 3, 1) := by decide +kernel
theorem dX1_longestDark_7 : decode cX1_longestDark 7 = .ok (.iload_n 3, 1) := by decide +kernel
theorem dX1_longestDark_8 : decode cX1_longestDark 8 = .ok (.aload_n 0, 1) := by decide +kernel
theorem dX1_longestDark_9 : decode cX1_longestDark 9 = .ok (.getfield 10, 3) := by decide +kernel
theorem dX1_longestDark_12 : decode cX1_longestDark 12 = .ok (.getfield 129, 3) := by decide +kernel
theorem dX1_longestDark_15 : decode cX1_longestDark 15 = .ok (.if_icmp .ge 30, 3) := by decide +kernel
theorem dX1_longestDark_18 : decode cX1_longestDark 18 = .ok (.aload_n 0, 1) := by decide +kernel
theorem dX1_longestDark_19 : decode cX1_longestDark 19 = .ok (.getfield 10, 3) := by decide +kernel
theorem dX1_longestDark_22 : decode cX1_longestDark 22 = .ok (.iload_n 3, 1) := by decide +kernel
theorem dX1_longestDark_23 : decode cX1_longestDark 23 = .ok (.invokevirtual 91, 3) := by decide +kernel
theorem dX1_longestDark_26 : decode cX1_longestDark 26 = .ok (.istore 4, 2) := by decide +kernel
theorem dX1_longestDark_28 : decode cX1_longestDark 28 = .ok (.iload 4, 2) := by decide +kernel
theorem dX1_longestDark_30 : decode cX1_longestDark 30 = .ok (.iload_n 2, 1) := by decide +kernel
theorem dX1_longestDark_31 : decode cX1_longestDark 31 = .ok (.if_icmp .le 8, 3) := by decide +kernel
theorem dX1_longestDark_34 : decode cX1_longestDark 34 = .ok (.iload 4, 2) := by decide +kernel
theorem dX1_longestDark_36 : decode cX1_longestDark 36 = .ok (.istore_n 2, 1) := by decide +kernel
theorem dX1_longestDark_37 : decode cX1_longestDark 37 = .ok (.iload_n 3, 1) := by decide +kernel
theorem dX1_longestDark_38 : decode cX1_longestDark 38 = .ok (.istore_n 1, 1) := by decide +kernel
theorem dX1_longestDark_39 : decode cX1_longestDark 39 = .ok (.iinc 3 1, 3) := by decide +kernel
theorem dX1_longestDark_42 : decode cX1_longestDark 42 = .ok (.goto (-35), 3) := by decide +kernel
theorem dX1_longestDark_45 : decode cX1_longestDark 45 = .ok (.iload_n 1, 1) := by decide +kernel
theorem dX1_longestDark_46 : decode cX1_longestDark 46 = .ok (.ireturn, 1) := by decide +kernel
set_option maxRecDepth 20000 in
theorem ggX1_costOfTheBox_X1_costOfChosen : GoodIn wsX1_costOfTheBox wsX1_costOfChosen := goodIn_r _ [7, 1, 8, 9, 10, 11, 12, 13, 14, 15, 16, 17, 18, 19, 20, 21, 22, 23, 24, 25, 26, 27, 28, 29, 30, 31, 32, 33, 34, 35, 36, 37, 38] (by decide +kernel) (by decide +kernel)
set_option maxRecDepth 20000 in
theorem gX1_costOfTheBox_X1_costOfChosen : GoodIn wsX1_costOfTheBox (wsV RX1 300 RX1 yX1_costOfChosen wsX1_costOfChosen) := goodIn_app (goodIn_of _ (by decide +kernel)) ggX1_costOfTheBox_X1_costOfChosen
theorem dX1_costOfTheBox_0 : decode cX1_costOfTheBox 0 = .ok (.aload_n 0, 1) := by decide +kernel
theorem dX1_costOfTheBox_1 : decode cX1_costOfTheBox 1 = .ok (.aload_n 0, 1) := by decide +kernel
theorem dX1_costOfTheBox_2 : decode cX1_costOfTheBox 2 = .ok (.getfield 10, 3) := by decide +kernel
theorem dX1_costOfTheBox_5 : decode cX1_costOfTheBox 5 = .ok (.getfield 132, 3) := by decide +kernel
theorem dX1_costOfTheBox_8 : decode cX1_costOfTheBox 8 = .ok (.iconst (-1), 1) := by decide +kernel
theorem dX1_costOfTheBox_9 : decode cX1_costOfTheBox 9 = .ok (.ixor, 1) := by decide +kernel
theorem dX1_costOfTheBox_10 : decode cX1_costOfTheBox 10 = .ok (.invokevirtual 300, 3) := by decide +kernel
theorem dX1_costOfTheBox_13 : decode cX1_costOfTheBox 13 = .ok (.ireturn, 1) := by decide +kernel
theorem dX1_lackingWords_0 : decode cX1_lackingWords 0 = .ok (.bipush 63, 2) := by decide +kernel
theorem dX1_lackingWords_2 : decode cX1_lackingWords 2 = .ok (.istore_n 1, 1) := by decide +kernel
theorem dX1_lackingWords_3 : decode cX1_lackingWords 3 = .ok (.iconst 0, 1) := by decide +kernel
theorem dX1_lackingWords_4 : decode cX1_lackingWords 4 = .ok (.istore_n 2, 1) := by decide +kernel
theorem dX1_lackingWords_5 : decode cX1_lackingWords 5 = .ok (.iload_n 2, 1) := by decide +kernel
theorem dX1_lackingWords_6 : decode cX1_lackingWords 6 = .ok (.aload_n 0, 1) := by decide +kernel
theorem dX1_lackingWords_7 : decode cX1_lackingWords 7 = .ok (.getfield 10, 3) := by decide +kernel
theorem dX1_lackingWords_10 : decode cX1_lackingWords 10 = .ok (.getfield 129, 3) := by decide +kernel
theorem dX1_lackingWords_13 : decode cX1_lackingWords 13 = .ok (.if_icmp .ge 25, 3) := by decide +kernel
theorem dX1_lackingWords_16 : decode cX1_lackingWords 16 = .ok (.iload_n 1, 1) := by decide +kernel
theorem dX1_lackingWords_17 : decode cX1_lackingWords 17 = .ok (.iconst 1, 1) := by decide +kernel
theorem dX1_lackingWords_18 : decode cX1_lackingWords 18 = .ok (.aload_n 0, 1) := by decide +kernel
theorem dX1_lackingWords_19 : decode cX1_lackingWords 19 = .ok (.getfield 10, 3) := by decide +kernel
theorem dX1_lackingWords_22 : decode cX1_lackingWords 22 = .ok (.getfield 79, 3) := by decide +kernel
theorem dX1_lackingWords_25 : decode cX1_lackingWords 25 = .ok (.iload_n 2, 1) := by decide +kernel
theorem dX1_lackingWords_26 : decode cX1_lackingWords 26 = .ok (.iaload, 1) := by decide +kernel
theorem dX1_lackingWords_27 : decode cX1_lackingWords 27 = .ok (.ishl, 1) := by decide +kernel
theorem dX1_lackingWords_28 : decode cX1_lackingWords 28 = .ok (.iconst (-1), 1) := by decide +kernel
theorem dX1_lackingWords_29 : decode cX1_lackingWords 29 = .ok (.ixor, 1) := by decide +kernel
theorem dX1_lackingWords_30 : decode cX1_lackingWords 30 = .ok (.iand, 1) := by decide +kernel
theorem dX1_lackingWords_31 : decode cX1_lackingWords 31 = .ok (.istore_n 1, 1) := by decide +kernel
theorem dX1_lackingWords_32 : decode cX1_lackingWords 32 = .ok (.iinc 2 1, 3) := by decide +kernel
theorem dX1_lackingWords_35 : decode cX1_lackingWords 35 = .ok (.goto (-30), 3) := by decide +kernel
theorem dX1_lackingWords_38 : decode cX1_lackingWords 38 = .ok (.iload_n 1, 1) := by decide +kernel
theorem dX1_lackingWords_39 : decode cX1_lackingWords 39 = .ok (.ireturn, 1) := by decide +kernel
set_option maxRecDepth 20000 in
theorem ggX1_knownWords_X0_wordsOf : GoodIn wsX1_knownWords wsX0_wordsOf := goodIn_r _ [7, 8, 21, 22, 23, 24, 25, 26, 27, 28, 29, 30, 31, 32] (by decide +kernel) (by decide +kernel)
set_option maxRecDepth 20000 in
theorem gX1_knownWords_X0_wordsOf : GoodIn wsX1_knownWords (wsV RX1 109 RX0 yX0_wordsOf wsX0_wordsOf) := goodIn_app (goodIn_of _ (by decide +kernel)) ggX1_knownWords_X0_wordsOf
theorem dX1_knownWords_0 : decode cX1_knownWords 0 = .ok (.bipush 63, 2) := by decide +kernel
theorem dX1_knownWords_2 : decode cX1_knownWords 2 = .ok (.istore_n 1, 1) := by decide +kernel
theorem dX1_knownWords_3 : decode cX1_knownWords 3 = .ok (.iconst 0, 1) := by decide +kernel
theorem dX1_knownWords_4 : decode cX1_knownWords 4 = .ok (.istore_n 2, 1) := by decide +kernel
theorem dX1_knownWords_5 : decode cX1_knownWords 5 = .ok (.iload_n 2, 1) := by decide +kernel
theorem dX1_knownWords_6 : decode cX1_knownWords 6 = .ok (.aload_n 0, 1) := by decide +kernel
theorem dX1_knownWords_7 : decode cX1_knownWords 7 = .ok (.getfield 10, 3) := by decide +kernel
theorem dX1_knownWords_10 : decode cX1_knownWords 10 = .ok (.getfield 203, 3) := by decide +kernel
theorem dX1_knownWords_13 : decode cX1_knownWords 13 = .ok (.if_icmp .ge 20, 3) := by decide +kernel
theorem dX1_knownWords_16 : decode cX1_knownWords 16 = .ok (.iload_n 1, 1) := by decide +kernel
theorem dX1_knownWords_17 : decode cX1_knownWords 17 = .ok (.aload_n 0, 1) := by decide +kernel
theorem dX1_knownWords_18 : decode cX1_knownWords 18 = .ok (.getfield 10, 3) := by decide +kernel
theorem dX1_knownWords_21 : decode cX1_knownWords 21 = .ok (.iload_n 2, 1) := by decide +kernel
theorem dX1_knownWords_22 : decode cX1_knownWords 22 = .ok (.invokevirtual 109, 3) := by decide +kernel
theorem dX1_knownWords_25 : decode cX1_knownWords 25 = .ok (.iand, 1) := by decide +kernel
theorem dX1_knownWords_26 : decode cX1_knownWords 26 = .ok (.istore_n 1, 1) := by decide +kernel
theorem dX1_knownWords_27 : decode cX1_knownWords 27 = .ok (.iinc 2 1, 3) := by decide +kernel
theorem dX1_knownWords_30 : decode cX1_knownWords 30 = .ok (.goto (-25), 3) := by decide +kernel
theorem dX1_knownWords_33 : decode cX1_knownWords 33 = .ok (.iload_n 1, 1) := by decide +kernel
theorem dX1_knownWords_34 : decode cX1_knownWords 34 = .ok (.ireturn, 1) := by decide +kernel
set_option maxRecDepth 20000 in
theorem ggX1_rarestWord_X0_wordsOf : GoodIn wsX1_rarestWord wsX0_wordsOf := goodIn_r _ [7, 8, 21, 22, 23, 24, 25, 26, 27, 28, 29, 30, 31, 32] (by decide +kernel) (by decide +kernel)
set_option maxRecDepth 20000 in
theorem gX1_rarestWord_X0_wordsOf : GoodIn wsX1_rarestWord (wsV RX1 109 RX0 yX0_wordsOf wsX0_wordsOf) := goodIn_app (goodIn_of _ (by decide +kernel)) ggX1_rarestWord_X0_wordsOf
theorem dX1_rarestWord_0 : decode cX1_rarestWord 0 = .ok (.iconst 0, 1) := by decide +kernel
theorem dX1_rarestWord_1 : decode cX1_rarestWord 1 = .ok (.istore_n 1, 1) := by decide +kernel
theorem dX1_rarestWord_2 : decode cX1_rarestWord 2 = .ok (.bipush 6, 2) := by decide +kernel
theorem dX1_rarestWord_4 : decode cX1_rarestWord 4 = .ok (.istore_n 2, 1) := by decide +kernel
theorem dX1_rarestWord_5 : decode cX1_rarestWord 5 = .ok (.iconst 0, 1) := by decide +kernel
theorem dX1_rarestWord_6 : decode cX1_rarestWord 6 = .ok (.istore_n 3, 1) := by decide +kernel
theorem dX1_rarestWord_7 : decode cX1_rarestWord 7 = .ok (.iload_n 3, 1) := by decide +kernel
theorem dX1_rarestWord_8 : decode cX1_rarestWord 8 = .ok (.bipush 6, 2) := by decide +kernel
theorem dX1_rarestWord_10 : decode cX1_rarestWord 10 = .ok (.if_icmp .ge 62, 3) := by decide +kernel
theorem dX1_rarestWord_13 : decode cX1_rarestWord 13 = .ok (.iconst 0, 1) := by decide +kernel
theorem dX1_rarestWord_14 : decode cX1_rarestWord 14 = .ok (.istore 4, 2) := by decide +kernel
theorem dX1_rarestWord_16 : decode cX1_rarestWord 16 = .ok (.iconst 0, 1) := by decide +kernel
theorem dX1_rarestWord_17 : decode cX1_rarestWord 17 = .ok (.istore 5, 2) := by decide +kernel
theorem dX1_rarestWord_19 : decode cX1_rarestWord 19 = .ok (.iload 5, 2) := by decide +kernel
theorem dX1_rarestWord_21 : decode cX1_rarestWord 21 = .ok (.aload_n 0, 1) := by decide +kernel
theorem dX1_rarestWord_22 : decode cX1_rarestWord 22 = .ok (.getfield 10, 3) := by decide +kernel
theorem dX1_rarestWord_25 : decode cX1_rarestWord 25 = .ok (.getfield 203, 3) := by decide +kernel
theorem dX1_rarestWord_28 : decode cX1_rarestWord 28 = .ok (.if_icmp .ge 27, 3) := by decide +kernel
theorem dX1_rarestWord_31 : decode cX1_rarestWord 31 = .ok (.iload 4, 2) := by decide +kernel
theorem dX1_rarestWord_33 : decode cX1_rarestWord 33 = .ok (.aload_n 0, 1) := by decide +kernel
theorem dX1_rarestWord_34 : decode cX1_rarestWord 34 = .ok (.getfield 10, 3) := by decide +kernel
theorem dX1_rarestWord_37 : decode cX1_rarestWord 37 = .ok (.iload 5, 2) := by decide +kernel
theorem dX1_rarestWord_39 : decode cX1_rarestWord 39 = .ok (.invokevirtual 109, 3) := by decide +kernel
theorem dX1_rarestWord_42 : decode cX1_rarestWord 42 = .ok (.iload_n 3, 1) := by decide +kernel
theorem dX1_rarestWord_43 : decode cX1_rarestWord 43 = .ok (.ishr, 1) := by decide +kernel
theorem dX1_rarestWord_44 : decode cX1_rarestWord 44 = .ok (.iconst 1, 1) := by decide +kernel
theorem dX1_rarestWord_45 : decode cX1_rarestWord 45 = .ok (.iand, 1) := by decide +kernel
theorem dX1_rarestWord_46 : decode cX1_rarestWord 46 = .ok (.iadd, 1) := by decide +kernel
theorem dX1_rarestWord_47 : decode cX1_rarestWord 47 = .ok (.istore 4, 2) := by decide +kernel
theorem dX1_rarestWord_49 : decode cX1_rarestWord 49 = .ok (.iinc 5 1, 3) := by decide +kernel
theorem dX1_rarestWord_52 : decode cX1_rarestWord 52 = .ok (.goto (-33), 3) := by decide +kernel
theorem dX1_rarestWord_55 : decode cX1_rarestWord 55 = .ok (.iload 4, 2) := by decide +kernel
theorem dX1_rarestWord_57 : decode cX1_rarestWord 57 = .ok (.iload_n 2, 1) := by decide +kernel
theorem dX1_rarestWord_58 : decode cX1_rarestWord 58 = .ok (.if_icmp .ge 8, 3) := by decide +kernel
theorem dX1_rarestWord_61 : decode cX1_rarestWord 61 = .ok (.iload 4, 2) := by decide +kernel
theorem dX1_rarestWord_63 : decode cX1_rarestWord 63 = .ok (.istore_n 2, 1) := by decide +kernel
theorem dX1_rarestWord_64 : decode cX1_rarestWord 64 = .ok (.iload_n 3, 1) := by decide +kernel
theorem dX1_rarestWord_65 : decode cX1_rarestWord 65 = .ok (.istore_n 1, 1) := by decide +kernel
theorem dX1_rarestWord_66 : decode cX1_rarestWord 66 = .ok (.iinc 3 1, 3) := by decide +kernel
theorem dX1_rarestWord_69 : decode cX1_rarestWord 69 = .ok (.goto (-62), 3) := by decide +kernel
theorem dX1_rarestWord_72 : decode cX1_rarestWord 72 = .ok (.iload_n 1, 1) := by decide +kernel
theorem dX1_rarestWord_73 : decode cX1_rarestWord 73 = .ok (.ireturn, 1) := by decide +kernel
set_option maxRecDepth 20000 in
theorem ggX1_noteWhatPairGets_X0_copyFrom : GoodIn wsX1_noteWhatPairGets wsX0_copyFrom := goodIn_r _ [9, 10, 11, 12, 13, 14, 15, 16, 17, 18, 19, 20, 21, 22, 23, 24, 25, 107, 108, 109, 110, 111, 112, 113, 114, 115, 116, 117, 118] (by decide +kernel) (by decide +kernel)
set_option maxRecDepth 20000 in
theorem gX1_noteWhatPairGets_X0_copyFrom : GoodIn wsX1_noteWhatPairGets (wsV RX1 59 RX0 yX0_copyFrom wsX0_copyFrom) := goodIn_app (goodIn_of _ (by decide +kernel)) ggX1_noteWhatPairGets_X0_copyFrom
set_option maxRecDepth 20000 in
theorem ggX1_noteWhatPairGets_X0_passNights : GoodIn wsX1_noteWhatPairGets wsX0_passNights := goodIn_r _ [29, 25, 30, 31, 32, 8, 33, 19, 22, 34, 35, 36, 37, 10, 38, 39, 40, 41, 23, 42, 43, 44, 45, 46, 47, 48, 49, 18, 50, 51, 52, 53, 11, 54, 55, 56, 57, 17, 21, 58, 59, 60, 61, 62, 63, 64, 65, 20, 66, 67, 68, 69, 24, 70, 71, 72, 73, 16, 107, 108, 109, 110, 111, 112, 113, 114, 115, 116, 117, 118] (by decide +kernel) (by decide +kernel)
set_option maxRecDepth 20000 in
theorem gX1_noteWhatPairGets_X0_passNights : GoodIn wsX1_noteWhatPairGets (wsV RX1 150 RX0 yX0_passNights wsX0_passNights) := goodIn_app (goodIn_of _ (by decide +kernel)) ggX1_noteWhatPairGets_X0_passNights
set_option maxRecDepth 20000 in
theorem ggX1_noteWhatPairGets_X1_gain : GoodIn wsX1_noteWhatPairGets wsX1_gain := goodIn_r _ [78, 1, 79, 80, 81, 8, 82, 22, 83, 84, 85, 86, 87, 88, 89, 90, 91, 92, 93, 94, 95, 96, 97, 98, 99, 100, 101, 102, 103, 104, 105, 106, 107, 108, 109, 110, 111, 112, 113, 114, 115, 116, 117, 118] (by decide +kernel) (by decide +kernel)
set_option maxRecDepth 20000 in
theorem gX1_noteWhatPairGets_X1_gain : GoodIn wsX1_noteWhatPairGets (wsV RX1 310 RX1 yX1_gain wsX1_gain) := goodIn_app (goodIn_of _ (by decide +kernel)) ggX1_noteWhatPairGets_X1_gain
theorem dX1_noteWhatPairGets_0 : decode cX1_noteWhatPairGets 0 = .ok (.iload 4, 2) := by decide +kernel
theorem dX1_noteWhatPairGets_2 : decode cX1_noteWhatPairGets 2 = .ok (.iconst 1, 1) := by decide +kernel
theorem dX1_noteWhatPairGets_3 : decode cX1_noteWhatPairGets 3 = .ok (.ishr, 1) := by decide +kernel
theorem dX1_noteWhatPairGets_4 : decode cX1_noteWhatPairGets 4 = .ok (.istore 5, 2) := by decide +kernel
theorem dX1_noteWhatPairGets_6 : decode cX1_noteWhatPairGets 6 = .ok (.iload 4, 2) := by decide +kernel
theorem dX1_noteWhatPairGets_8 : decode cX1_noteWhatPairGets 8 = .ok (.iconst 1, 1) := by decide +kernel
theorem dX1_noteWhatPairGets_9 : decode cX1_noteWhatPairGets 9 = .ok (.iand, 1) := by decide +kernel
theorem dX1_noteWhatPairGets_10 : decode cX1_noteWhatPairGets 10 = .ok (.istore 6, 2) := by decide +kernel
theorem dX1_noteWhatPairGets_12 : decode cX1_noteWhatPairGets 12 = .ok (.iconst 1, 1) := by decide +kernel
theorem dX1_noteWhatPairGets_13 : decode cX1_noteWhatPairGets 13 = .ok (.iload 5, 2) := by decide +kernel
theorem dX1_noteWhatPairGets_15 : decode cX1_noteWhatPairGets 15 = .ok (.isub, 1) := by decide +kernel
theorem dX1_noteWhatPairGets_16 : decode cX1_noteWhatPairGets 16 = .ok (.iload_n 1, 1) := by decide +kernel
theorem dX1_noteWhatPairGets_17 : decode cX1_noteWhatPairGets 17 = .ok (.ishl, 1) := by decide +kernel
theorem dX1_noteWhatPairGets_18 : decode cX1_noteWhatPairGets 18 = .ok (.iconst 1, 1) := by decide +kernel
theorem dX1_noteWhatPairGets_19 : decode cX1_noteWhatPairGets 19 = .ok (.iload 6, 2) := by decide +kernel
theorem dX1_noteWhatPairGets_21 : decode cX1_noteWhatPairGets 21 = .ok (.isub, 1) := by decide +kernel
theorem dX1_noteWhatPairGets_22 : decode cX1_noteWhatPairGets 22 = .ok (.iload_n 2, 1) := by decide +kernel
theorem dX1_noteWhatPairGets_23 : decode cX1_noteWhatPairGets 23 = .ok (.ishl, 1) := by decide +kernel
theorem dX1_noteWhatPairGets_24 : decode cX1_noteWhatPairGets 24 = .ok (.ior, 1) := by decide +kernel
theorem dX1_noteWhatPairGets_25 : decode cX1_noteWhatPairGets 25 = .ok (.istore 7, 2) := by decide +kernel
theorem dX1_noteWhatPairGets_27 : decode cX1_noteWhatPairGets 27 = .ok (.aload_n 0, 1) := by decide +kernel
theorem dX1_noteWhatPairGets_28 : decode cX1_noteWhatPairGets 28 = .ok (.getfield 16, 3) := by decide +kernel
theorem dX1_noteWhatPairGets_31 : decode cX1_noteWhatPairGets 31 = .ok (.aload_n 0, 1) := by decide +kernel
theorem dX1_noteWhatPairGets_32 : decode cX1_noteWhatPairGets 32 = .ok (.getfield 10, 3) := by decide +kernel
theorem dX1_noteWhatPairGets_35 : decode cX1_noteWhatPairGets 35 = .ok (.invokevirtual 59, 3) := by decide +kernel
theorem dX1_noteWhatPairGets_38 : decode cX1_noteWhatPairGets 38 = .ok (.aload_n 0, 1) := by decide +kernel
theorem dX1_noteWhatPairGets_39 : decode cX1_noteWhatPairGets 39 = .ok (.getfield 16, 3) := by decide +kernel
theorem dX1_noteWhatPairGets_42 : decode cX1_noteWhatPairGets 42 = .ok (.iload_n 3, 1) := by decide +kernel
theorem dX1_noteWhatPairGets_43 : decode cX1_noteWhatPairGets 43 = .ok (.bipush 31, 2) := by decide +kernel
theorem dX1_noteWhatPairGets_45 : decode cX1_noteWhatPairGets 45 = .ok (.iload 7, 2) := by decide +kernel
theorem dX1_noteWhatPairGets_47 : decode cX1_noteWhatPairGets 47 = .ok (.iconst (-1), 1) := by decide +kernel
theorem dX1_noteWhatPairGets_48 : decode cX1_noteWhatPairGets 48 = .ok (.ixor, 1) := by decide +kernel
theorem dX1_noteWhatPairGets_49 : decode cX1_noteWhatPairGets 49 = .ok (.iand, 1) := by decide +kernel
theorem dX1_noteWhatPairGets_50 : decode cX1_noteWhatPairGets 50 = .ok (.invokevirtual 150, 3) := by decide +kernel
theorem dX1_noteWhatPairGets_53 : decode cX1_noteWhatPairGets 53 = .ok (.aload_n 0, 1) := by decide +kernel
theorem dX1_noteWhatPairGets_54 : decode cX1_noteWhatPairGets 54 = .ok (.getfield 46, 3) := by decide +kernel
theorem dX1_noteWhatPairGets_57 : decode cX1_noteWhatPairGets 57 = .ok (.iload 4, 2) := by decide +kernel
theorem dX1_noteWhatPairGets_59 : decode cX1_noteWhatPairGets 59 = .ok (.aload_n 0, 1) := by decide +kernel
theorem dX1_noteWhatPairGets_60 : decode cX1_noteWhatPairGets 60 = .ok (.iload_n 1, 1) := by decide +kernel
theorem dX1_noteWhatPairGets_61 : decode cX1_noteWhatPairGets 61 = .ok (.iload_n 2, 1) := by decide +kernel
theorem dX1_noteWhatPairGets_62 : decode cX1_noteWhatPairGets 62 = .ok (.invokevirtual 310, 3) := by decide +kernel
theorem dX1_noteWhatPairGets_65 : decode cX1_noteWhatPairGets 65 = .ok (.iload 5, 2) := by decide +kernel
theorem dX1_noteWhatPairGets_67 : decode cX1_noteWhatPairGets 67 = .ok (.isub, 1) := by decide +kernel
theorem dX1_noteWhatPairGets_68 : decode cX1_noteWhatPairGets 68 = .ok (.iastore, 1) := by decide +kernel
theorem dX1_noteWhatPairGets_69 : decode cX1_noteWhatPairGets 69 = .ok (.aload_n 0, 1) := by decide +kernel
theorem dX1_noteWhatPairGets_70 : decode cX1_noteWhatPairGets 70 = .ok (.getfield 49, 3) := by decide +kernel
theorem dX1_noteWhatPairGets_73 : decode cX1_noteWhatPairGets 73 = .ok (.iload 4, 2) := by decide +kernel
theorem dX1_noteWhatPairGets_75 : decode cX1_noteWhatPairGets 75 = .ok (.aload_n 0, 1) := by decide +kernel
theorem dX1_noteWhatPairGets_76 : decode cX1_noteWhatPairGets 76 = .ok (.iload_n 2, 1) := by decide +kernel
theorem dX1_noteWhatPairGets_77 : decode cX1_noteWhatPairGets 77 = .ok (.iload_n 1, 1) := by decide +kernel
theorem dX1_noteWhatPairGets_78 : decode cX1_noteWhatPairGets 78 = .ok (.invokevirtual 310, 3) := by decide +kernel
theorem dX1_noteWhatPairGets_81 : decode cX1_noteWhatPairGets 81 = .ok (.iload 6, 2) := by decide +kernel
theorem dX1_noteWhatPairGets_83 : decode cX1_noteWhatPairGets 83 = .ok (.isub, 1) := by decide +kernel
theorem dX1_noteWhatPairGets_84 : decode cX1_noteWhatPairGets 84 = .ok (.iastore, 1) := by decide +kernel
theorem dX1_noteWhatPairGets_85 : decode cX1_noteWhatPairGets 85 = .ok (.return_, 1) := by decide +kernel
set_option maxRecDepth 20000 in
theorem ggX1_gain_X0_wordsOf : GoodIn wsX1_gain wsX0_wordsOf := goodIn_r _ [6, 7, 32, 33, 34, 35, 36, 37, 38, 39, 40, 41, 42, 43] (by decide +kernel) (by decide +kernel)
set_option maxRecDepth 20000 in
theorem gX1_gain_X0_wordsOf : GoodIn wsX1_gain (wsV RX1 109 RX0 yX0_wordsOf wsX0_wordsOf) := goodIn_app (goodIn_of _ (by decide +kernel)) ggX1_gain_X0_wordsOf
set_option maxRecDepth 20000 in
theorem ggX1_gain_J6_bitCount_0f7a4 : GoodIn wsX1_gain wsJ6_bitCount_0f7a4 := goodIn_r _ [11, 12, 13, 14] (by decide +kernel) (by decide +kernel)
set_option maxRecDepth 20000 in
theorem gX1_gain_J6_bitCount_0f7a4 : GoodIn wsX1_gain (va_wsS RX1 135 yJ6_bitCount_0f7a4 wsJ6_bitCount_0f7a4) := goodIn_app (goodIn_of _ (by decide +kernel)) ggX1_gain_J6_bitCount_0f7a4
set_option maxRecDepth 20000 in
theorem ggX1_gain_X0_isWhole : GoodIn wsX1_gain wsX0_isWhole := goodIn_r _ [18, 19, 3, 4, 5, 6, 7, 32, 33, 34, 35, 36, 37, 38, 39, 40, 41, 42, 43] (by decide +kernel) (by decide +kernel)
set_option maxRecDepth 20000 in
theorem gX1_gain_X0_isWhole : GoodIn wsX1_gain (wsV RX1 288 RX0 yX0_isWhole wsX0_isWhole) := goodIn_app (goodIn_of _ (by decide +kernel)) ggX1_gain_X0_isWhole
theorem dX1_gain_0 : decode cX1_gain 0 = .ok (.aload_n 0, 1) := by decide +kernel
theorem dX1_gain_1 : decode cX1_gain 1 = .ok (.getfield 16, 3) := by decide +kernel
theorem dX1_gain_4 : decode cX1_gain 4 = .ok (.iload_n 1, 1) := by decide +kernel
theorem dX1_gain_5 : decode cX1_gain 5 = .ok (.invokevirtual 109, 3) := by decide +kernel
theorem dX1_gain_8 : decode cX1_gain 8 = .ok (.invokestatic 135, 3) := by decide +kernel
theorem dX1_gain_11 : decode cX1_gain 11 = .ok (.istore_n 3, 1) := by decide +kernel
theorem dX1_gain_12 : decode cX1_gain 12 = .ok (.aload_n 0, 1) := by decide +kernel
theorem dX1_gain_13 : decode cX1_gain 13 = .ok (.getfield 16, 3) := by decide +kernel
theorem dX1_gain_16 : decode cX1_gain 16 = .ok (.iload_n 1, 1) := by decide +kernel
theorem dX1_gain_17 : decode cX1_gain 17 = .ok (.invokevirtual 288, 3) := by decide +kernel
theorem dX1_gain_20 : decode cX1_gain 20 = .ok (.ifCond .eq 20, 3) := by decide +kernel
theorem dX1_gain_23 : decode cX1_gain 23 = .ok (.aload_n 0, 1) := by decide +kernel
theorem dX1_gain_24 : decode cX1_gain 24 = .ok (.getfield 16, 3) := by decide +kernel
theorem dX1_gain_27 : decode cX1_gain 27 = .ok (.iload_n 2, 1) := by decide +kernel
theorem dX1_gain_28 : decode cX1_gain 28 = .ok (.invokevirtual 288, 3) := by decide +kernel
theorem dX1_gain_31 : decode cX1_gain 31 = .ok (.ifCond .ne 9, 3) := by decide +kernel
theorem dX1_gain_34 : decode cX1_gain 34 = .ok (.iload_n 3, 1) := by decide +kernel
theorem dX1_gain_35 : decode cX1_gain 35 = .ok (.iconst 3, 1) := by decide +kernel
theorem dX1_gain_36 : decode cX1_gain 36 = .ok (.iadd, 1) := by decide +kernel
theorem dX1_gain_37 : decode cX1_gain 37 = .ok (.goto 4, 3) := by decide +kernel
theorem dX1_gain_40 : decode cX1_gain 40 = .ok (.iload_n 3, 1) := by decide +kernel
theorem dX1_gain_41 : decode cX1_gain 41 = .ok (.ireturn, 1) := by decide +kernel
set_option maxRecDepth 20000 in
theorem ggX1_isWholeAfter_X0_copyFrom : GoodIn wsX1_isWholeAfter wsX0_copyFrom := goodIn_r _ [7, 8, 9, 10, 11, 12, 13, 14, 15, 16, 17, 18, 19, 20, 21, 22, 23, 92, 93, 94, 95, 96, 97, 98, 99, 100, 101, 102, 103] (by decide +kernel) (by decide +kernel)
set_option maxRecDepth 20000 in
theorem gX1_isWholeAfter_X0_copyFrom : GoodIn wsX1_isWholeAfter (wsV RX1 59 RX0 yX0_copyFrom wsX0_copyFrom) := goodIn_app (goodIn_of _ (by decide +kernel)) ggX1_isWholeAfter_X0_copyFrom
set_option maxRecDepth 20000 in
theorem ggX1_isWholeAfter_X0_passNights : GoodIn wsX1_isWholeAfter wsX0_passNights := goodIn_r _ [27, 23, 28, 29, 30, 6, 31, 17, 20, 32, 33, 34, 35, 8, 36, 37, 38, 39, 21, 40, 41, 42, 43, 44, 45, 46, 47, 16, 48, 49, 50, 51, 9, 52, 53, 54, 55, 15, 19, 56, 57, 58, 59, 60, 61, 62, 63, 18, 64, 65, 66, 67, 22, 68, 69, 70, 71, 14, 92, 93, 94, 95, 96, 97, 98, 99, 100, 101, 102, 103] (by decide +kernel) (by decide +kernel)
set_option maxRecDepth 20000 in
theorem gX1_isWholeAfter_X0_passNights : GoodIn wsX1_isWholeAfter (wsV RX1 150 RX0 yX0_passNights wsX0_passNights) := goodIn_app (goodIn_of _ (by decide +kernel)) ggX1_isWholeAfter_X0_passNights
set_option maxRecDepth 20000 in
theorem ggX1_isWholeAfter_X0_isWhole : GoodIn wsX1_isWholeAfter wsX0_isWhole := goodIn_r _ [75, 76, 77, 78, 6, 79, 20, 92, 93, 94, 95, 96, 97, 98, 99, 100, 101, 102, 103] (by decide +kernel) (by decide +kernel)
set_option maxRecDepth 20000 in
theorem gX1_isWholeAfter_X0_isWhole : GoodIn wsX1_isWholeAfter (wsV RX1 288 RX0 yX0_isWhole wsX0_isWhole) := goodIn_app (goodIn_of _ (by decide +kernel)) ggX1_isWholeAfter_X0_isWhole
theorem dX1_isWholeAfter_0 : decode cX1_isWholeAfter 0 = .ok (.aload_n 0, 1) := by decide +kernel
theorem dX1_isWholeAfter_1 : decode cX1_isWholeAfter 1 = .ok (.getfield 16, 3) := by decide +kernel
theorem dX1_isWholeAfter_4 : decode cX1_isWholeAfter 4 = .ok (.aload_n 0, 1) := by decide +kernel
theorem dX1_isWholeAfter_5 : decode cX1_isWholeAfter 5 = .ok (.getfield 10, 3) := by decide +kernel
theorem dX1_isWholeAfter_8 : decode cX1_isWholeAfter 8 = .ok (.invokevirtual 59, 3) := by decide +kernel
theorem dX1_isWholeAfter_11 : decode cX1_isWholeAfter 11 = .ok (.iconst 0, 1) := by decide +kernel
theorem dX1_isWholeAfter_12 : decode cX1_isWholeAfter 12 = .ok (.istore 4, 2) := by decide +kernel
theorem dX1_isWholeAfter_14 : decode cX1_isWholeAfter 14 = .ok (.iload 4, 2) := by decide +kernel
theorem dX1_isWholeAfter_16 : decode cX1_isWholeAfter 16 = .ok (.iload_n 2, 1) := by decide +kernel
theorem dX1_isWholeAfter_17 : decode cX1_isWholeAfter 17 = .ok (.if_icmp .ge 33, 3) := by decide +kernel
theorem dX1_isWholeAfter_20 : decode cX1_isWholeAfter 20 = .ok (.aload_n 0, 1) := by decide +kernel
theorem dX1_isWholeAfter_21 : decode cX1_isWholeAfter 21 = .ok (.getfield 16, 3) := by decide +kernel
theorem dX1_isWholeAfter_24 : decode cX1_isWholeAfter 24 = .ok (.iconst 1, 1) := by decide +kernel
theorem dX1_isWholeAfter_25 : decode cX1_isWholeAfter 25 = .ok (.iload_n 3, 1) := by decide +kernel
theorem dX1_isWholeAfter_26 : decode cX1_isWholeAfter 26 = .ok (.iload 4, 2) := by decide +kernel
theorem dX1_isWholeAfter_28 : decode cX1_isWholeAfter 28 = .ok (.ishr, 1) := by decide +kernel
theorem dX1_isWholeAfter_29 : decode cX1_isWholeAfter 29 = .ok (.iconst 1, 1) := by decide +kernel
theorem dX1_isWholeAfter_30 : decode cX1_isWholeAfter 30 = .ok (.iand, 1) := by decide +kernel
theorem dX1_isWholeAfter_31 : decode cX1_isWholeAfter 31 = .ok (.iconst 1, 1) := by decide +kernel
theorem dX1_isWholeAfter_32 : decode cX1_isWholeAfter 32 = .ok (.if_icmp .ne 8, 3) := by decide +kernel
theorem dX1_isWholeAfter_35 : decode cX1_isWholeAfter 35 = .ok (.bipush 31, 2) := by decide +kernel
theorem dX1_isWholeAfter_37 : decode cX1_isWholeAfter 37 = .ok (.goto 4, 3) := by decide +kernel
theorem dX1_isWholeAfter_40 : decode cX1_isWholeAfter 40 = .ok (.iconst 0, 1) := by decide +kernel
theorem dX1_isWholeAfter_41 : decode cX1_isWholeAfter 41 = .ok (.invokevirtual 150, 3) := by decide +kernel
theorem dX1_isWholeAfter_44 : decode cX1_isWholeAfter 44 = .ok (.iinc 4 1, 3) := by decide +kernel
theorem dX1_isWholeAfter_47 : decode cX1_isWholeAfter 47 = .ok (.goto (-33), 3) := by decide +kernel
theorem dX1_isWholeAfter_50 : decode cX1_isWholeAfter 50 = .ok (.aload_n 0, 1) := by decide +kernel
theorem dX1_isWholeAfter_51 : decode cX1_isWholeAfter 51 = .ok (.getfield 16, 3) := by decide +kernel
theorem dX1_isWholeAfter_54 : decode cX1_isWholeAfter 54 = .ok (.iload_n 1, 1) := by decide +kernel
theorem dX1_isWholeAfter_55 : decode cX1_isWholeAfter 55 = .ok (.invokevirtual 288, 3) := by decide +kernel
theorem dX1_isWholeAfter_58 : decode cX1_isWholeAfter 58 = .ok (.ireturn, 1) := by decide +kernel
set_option maxRecDepth 20000 in
theorem ggX1_rowFitsMind_X0_wordsOf : GoodIn wsX1_rowFitsMind wsX0_wordsOf := goodIn_r _ [9, 10, 30, 31, 32, 33, 34, 35, 36, 37, 38, 39, 40, 41] (by decide +kernel) (by decide +kernel)
set_option maxRecDepth 20000 in
theorem gX1_rowFitsMind_X0_wordsOf : GoodIn wsX1_rowFitsMind (wsV RX1 109 RX0 yX0_wordsOf wsX0_wordsOf) := goodIn_app (goodIn_of _ (by decide +kernel)) ggX1_rowFitsMind_X0_wordsOf
set_option maxRecDepth 20000 in
theorem ggX1_rowFitsMind_J6_bitCount_0f7a4 : GoodIn wsX1_rowFitsMind wsJ6_bitCount_0f7a4 := goodIn_r _ [14, 15, 16, 17] (by decide +kernel) (by decide +kernel)
set_option maxRecDepth 20000 in
theorem gX1_rowFitsMind_J6_bitCount_0f7a4 : GoodIn wsX1_rowFitsMind (va_wsS RX1 135 yJ6_bitCount_0f7a4 wsJ6_bitCount_0f7a4) := goodIn_app (goodIn_of _ (by decide +kernel)) ggX1_rowFitsMind_J6_bitCount_0f7a4
theorem dX1_rowFitsMind_0 : decode cX1_rowFitsMind 0 = .ok (.aload_n 0, 1) := by decide +kernel
theorem dX1_rowFitsMind_1 : decode cX1_rowFitsMind 1 = .ok (.getfield 37, 3) := by decide +kernel
theorem dX1_rowFitsMind_4 : decode cX1_rowFitsMind 4 = .ok (.aload_n 0, 1) := by decide +kernel
theorem dX1_rowFitsMind_5 : decode cX1_rowFitsMind 5 = .ok (.getfield 16, 3) := by decide +kernel
theorem dX1_rowFitsMind_8 : decode cX1_rowFitsMind 8 = .ok (.getfield 203, 3) := by decide +kernel
theorem dX1_rowFitsMind_11 : decode cX1_rowFitsMind 11 = .ok (.if_icmp .le 5, 3) := by decide +kernel
theorem dX1_rowFitsMind_14 : decode cX1_rowFitsMind 14 = .ok (.iconst 0, 1) := by decide +kernel
theorem dX1_rowFitsMind_15 : decode cX1_rowFitsMind 15 = .ok (.ireturn, 1) := by decide +kernel
theorem dX1_rowFitsMind_16 : decode cX1_rowFitsMind 16 = .ok (.iconst 0, 1) := by decide +kernel
theorem dX1_rowFitsMind_17 : decode cX1_rowFitsMind 17 = .ok (.istore_n 1, 1) := by decide +kernel
theorem dX1_rowFitsMind_18 : decode cX1_rowFitsMind 18 = .ok (.iload_n 1, 1) := by decide +kernel
theorem dX1_rowFitsMind_19 : decode cX1_rowFitsMind 19 = .ok (.aload_n 0, 1) := by decide +kernel
theorem dX1_rowFitsMind_20 : decode cX1_rowFitsMind 20 = .ok (.getfield 37, 3) := by decide +kernel
theorem dX1_rowFitsMind_23 : decode cX1_rowFitsMind 23 = .ok (.if_icmp .ge 31, 3) := by decide +kernel
theorem dX1_rowFitsMind_26 : decode cX1_rowFitsMind 26 = .ok (.aload_n 0, 1) := by decide +kernel
theorem dX1_rowFitsMind_27 : decode cX1_rowFitsMind 27 = .ok (.getfield 16, 3) := by decide +kernel
theorem dX1_rowFitsMind_30 : decode cX1_rowFitsMind 30 = .ok (.iload_n 1, 1) := by decide +kernel
theorem dX1_rowFitsMind_31 : decode cX1_rowFitsMind 31 = .ok (.invokevirtual 109, 3) := by decide +kernel
theorem dX1_rowFitsMind_34 : decode cX1_rowFitsMind 34 = .ok (.invokestatic 135, 3) := by decide +kernel
theorem dX1_rowFitsMind_37 : decode cX1_rowFitsMind 37 = .ok (.aload_n 0, 1) := by decide +kernel
theorem dX1_rowFitsMind_38 : decode cX1_rowFitsMind 38 = .ok (.getfield 34, 3) := by decide +kernel
theorem dX1_rowFitsMind_41 : decode cX1_rowFitsMind 41 = .ok (.iload_n 1, 1) := by decide +kernel
theorem dX1_rowFitsMind_42 : decode cX1_rowFitsMind 42 = .ok (.iaload, 1) := by decide +kernel
theorem dX1_rowFitsMind_43 : decode cX1_rowFitsMind 43 = .ok (.if_icmp .eq 5, 3) := by decide +kernel
theorem dX1_rowFitsMind_46 : decode cX1_rowFitsMind 46 = .ok (.iconst 0, 1) := by decide +kernel
theorem dX1_rowFitsMind_47 : decode cX1_rowFitsMind 47 = .ok (.ireturn, 1) := by decide +kernel
theorem dX1_rowFitsMind_48 : decode cX1_rowFitsMind 48 = .ok (.iinc 1 1, 3) := by decide +kernel
theorem dX1_rowFitsMind_51 : decode cX1_rowFitsMind 51 = .ok (.goto (-33), 3) := by decide +kernel
theorem dX1_rowFitsMind_54 : decode cX1_rowFitsMind 54 = .ok (.iconst 1, 1) := by decide +kernel
theorem dX1_rowFitsMind_55 : decode cX1_rowFitsMind 55 = .ok (.ireturn, 1) := by decide +kernel
theorem dX1_power_0 : decode cX1_power 0 = .ok (.lconst 1, 1) := by decide +kernel
theorem dX1_power_1 : decode cX1_power 1 = .ok (.lstore_n 2, 1) := by decide +kernel
theorem dX1_power_2 : decode cX1_power 2 = .ok (.iconst 0, 1) := by decide +kernel
theorem dX1_power_3 : decode cX1_power 3 = .ok (.istore 4, 2) := by decide +kernel
theorem dX1_power_5 : decode cX1_power 5 = .ok (.iload 4, 2) := by decide +kernel
theorem dX1_power_7 : decode cX1_power 7 = .ok (.iload_n 1, 1) := by decide +kernel
theorem dX1_power_8 : decode cX1_power 8 = .ok (.if_icmp .ge 14, 3) := by decide +kernel
theorem dX1_power_11 : decode cX1_power 11 = .ok (.lload_n 2, 1) := by decide +kernel
theorem dX1_power_12 : decode cX1_power 12 = .ok (.iload_n 0, 1) := by decide +kernel
theorem dX1_power_13 : decode cX1_power 13 = .ok (.i2l, 1) := by decide +kernel
theorem dX1_power_14 : decode cX1_power 14 = .ok (.lmul, 1) := by decide +kernel
theorem dX1_power_15 : decode cX1_power 15 = .ok (.lstore_n 2, 1) := by decide +kernel
theorem dX1_power_16 : decode cX1_power 16 = .ok (.iinc 4 1, 3) := by decide +kernel
theorem dX1_power_19 : decode cX1_power 19 = .ok (.goto (-14), 3) := by decide +kernel
theorem dX1_power_22 : decode cX1_power 22 = .ok (.lload_n 2, 1) := by decide +kernel
theorem dX1_power_23 : decode cX1_power 23 = .ok (.lreturn, 1) := by decide +kernel
set_option maxRecDepth 20000 in
theorem ggX1_partOf_X1_commonDivisor : GoodIn wsX1_partOf wsX1_commonDivisor := goodIn_r _ [4] (by decide +kernel) (by decide +kernel)
set_option maxRecDepth 20000 in
theorem gX1_partOf_X1_commonDivisor : GoodIn wsX1_partOf (va_wsS RX1 313 yX1_commonDivisor wsX1_commonDivisor) := goodIn_app (goodIn_of _ (by decide +kernel)) ggX1_partOf_X1_commonDivisor
theorem dX1_partOf_0 : decode cX1_partOf 0 = .ok (.lload_n 0, 1) := by decide +kernel
theorem dX1_partOf_1 : decode cX1_partOf 1 = .ok (.lload_n 2, 1) := by decide +kernel
theorem dX1_partOf_2 : decode cX1_partOf 2 = .ok (.invokestatic 313, 3) := by decide +kernel
theorem dX1_partOf_5 : decode cX1_partOf 5 = .ok (.lstore 5, 2) := by decide +kernel
theorem dX1_partOf_7 : decode cX1_partOf 7 = .ok (.lload 5, 2) := by decide +kernel
theorem dX1_partOf_9 : decode cX1_partOf 9 = .ok (.lconst 0, 1) := by decide +kernel
theorem dX1_partOf_10 : decode cX1_partOf 10 = .ok (.lcmp, 1) := by decide +kernel
theorem dX1_partOf_11 : decode cX1_partOf 11 = .ok (.ifCond .ne 7, 3) := by decide +kernel
theorem dX1_partOf_14 : decode cX1_partOf 14 = .ok (.iload 4, 2) := by decide +kernel
theorem dX1_partOf_16 : decode cX1_partOf 16 = .ok (.i2l, 1) := by decide +kernel
theorem dX1_partOf_17 : decode cX1_partOf 17 = .ok (.lreturn, 1) := by decide +kernel
theorem dX1_partOf_18 : decode cX1_partOf 18 = .ok (.iload 4, 2) := by decide +kernel
theorem dX1_partOf_20 : decode cX1_partOf 20 = .ok (.ifCond .ne 7, 3) := by decide +kernel
theorem dX1_partOf_23 : decode cX1_partOf 23 = .ok (.lload_n 0, 1) := by decide +kernel
theorem dX1_partOf_24 : decode cX1_partOf 24 = .ok (.goto 4, 3) := by decide +kernel
theorem dX1_partOf_27 : decode cX1_partOf 27 = .ok (.lload_n 2, 1) := by decide +kernel
theorem dX1_partOf_28 : decode cX1_partOf 28 = .ok (.lload 5, 2) := by decide +kernel
theorem dX1_partOf_30 : decode cX1_partOf 30 = .ok (.ldiv, 1) := by decide +kernel
theorem dX1_partOf_31 : decode cX1_partOf 31 = .ok (.lreturn, 1) := by decide +kernel
theorem dX1_commonDivisor_0 : decode cX1_commonDivisor 0 = .ok (.lload_n 0, 1) := by decide +kernel
theorem dX1_commonDivisor_1 : decode cX1_commonDivisor 1 = .ok (.lstore 4, 2) := by decide +kernel
theorem dX1_commonDivisor_3 : decode cX1_commonDivisor 3 = .ok (.lload_n 2, 1) := by decide +kernel
theorem dX1_commonDivisor_4 : decode cX1_commonDivisor 4 = .ok (.lstore 6, 2) := by decide +kernel
theorem dX1_commonDivisor_6 : decode cX1_commonDivisor 6 = .ok (.iconst 0, 1) := by decide +kernel
theorem dX1_commonDivisor_7 : decode cX1_commonDivisor 7 = .ok (.istore 8, 2) := by decide +kernel
theorem dX1_commonDivisor_9 : decode cX1_commonDivisor 9 = .ok (.iload 8, 2) := by decide +kernel
theorem dX1_commonDivisor_11 : decode cX1_commonDivisor 11 = .ok (.sipush 1000, 3) := by decide +kernel
theorem dX1_commonDivisor_14 : decode cX1_commonDivisor 14 = .ok (.if_icmp .ge 31, 3) := by decide +kernel
theorem dX1_commonDivisor_17 : decode cX1_commonDivisor 17 = .ok (.lload 6, 2) := by decide +kernel
theorem dX1_commonDivisor_19 : decode cX1_commonDivisor 19 = .ok (.lconst 0, 1) := by decide +kernel
theorem dX1_commonDivisor_20 : decode cX1_commonDivisor 20 = .ok (.lcmp, 1) := by decide +kernel
theorem dX1_commonDivisor_21 : decode cX1_commonDivisor 21 = .ok (.ifCond .eq 24, 3) := by decide +kernel
theorem dX1_commonDivisor_24 : decode cX1_commonDivisor 24 = .ok (.lload 4, 2) := by decide +kernel
theorem dX1_commonDivisor_26 : decode cX1_commonDivisor 26 = .ok (.lload 6, 2) := by decide +kernel
theorem dX1_commonDivisor_28 : decode cX1_commonDivisor 28 = .ok (.lrem, 1) := by decide +kernel
theorem dX1_commonDivisor_29 : decode cX1_commonDivisor 29 = .ok (.lstore 9, 2) := by decide +kernel
theorem dX1_commonDivisor_31 : decode cX1_commonDivisor 31 = .ok (.lload 6, 2) := by decide +kernel
theorem dX1_commonDivisor_33 : decode cX1_commonDivisor 33 = .ok (.lstore 4, 2) := by decide +kernel
theorem dX1_commonDivisor_35 : decode cX1_commonDivisor 35 = .ok (.lload 9, 2) := by decide +kernel
theorem dX1_commonDivisor_37 : decode cX1_commonDivisor 37 = .ok (.lstore 6, 2) := by decide +kernel
theorem dX1_commonDivisor_39 : decode cX1_commonDivisor 39 = .ok (.iinc 8 1, 3) := by decide +kernel
theorem dX1_commonDivisor_42 : decode cX1_commonDivisor 42 = .ok (.goto (-33), 3) := by decide +kernel
theorem dX1_commonDivisor_45 : decode cX1_commonDivisor 45 = .ok (.lload 4, 2) := by decide +kernel
theorem dX1_commonDivisor_47 : decode cX1_commonDivisor 47 = .ok (.lreturn, 1) := by decide +kernel
theorem dX2_init_0 : decode cX2_init 0 = .ok (.aload_n 0, 1) := by decide +kernel
theorem dX2_init_1 : decode cX2_init 1 = .ok (.invokespecial 1, 3) := by decide +kernel
theorem dX2_init_4 : decode cX2_init 4 = .ok (.aload_n 0, 1) := by decide +kernel
theorem dX2_init_5 : decode cX2_init 5 = .ok (.bipush 81, 2) := by decide +kernel
theorem dX2_init_7 : decode cX2_init 7 = .ok (.newarray .int, 2) := by decide +kernel
theorem dX2_init_9 : decode cX2_init 9 = .ok (.putfield 9, 3) := by decide +kernel
theorem dX2_init_12 : decode cX2_init 12 = .ok (.aload_n 0, 1) := by decide +kernel
theorem dX2_init_13 : decode cX2_init 13 = .ok (.bipush 81, 2) := by decide +kernel
theorem dX2_init_15 : decode cX2_init 15 = .ok (.newarray .int, 2) := by decide +kernel
theorem dX2_init_17 : decode cX2_init 17 = .ok (.putfield 13, 3) := by decide +kernel
theorem dX2_init_20 : decode cX2_init 20 = .ok (.aload_n 0, 1) := by decide +kernel
theorem dX2_init_21 : decode cX2_init 21 = .ok (.bipush 81, 2) := by decide +kernel
theorem dX2_init_23 : decode cX2_init 23 = .ok (.newarray .int, 2) := by decide +kernel
theorem dX2_init_25 : decode cX2_init 25 = .ok (.putfield 16, 3) := by decide +kernel
theorem dX2_init_28 : decode cX2_init 28 = .ok (.aload_n 0, 1) := by decide +kernel
theorem dX2_init_29 : decode cX2_init 29 = .ok (.bipush 81, 2) := by decide +kernel
theorem dX2_init_31 : decode cX2_init 31 = .ok (.newarray .int, 2) := by decide +kernel
theorem dX2_init_33 : decode cX2_init 33 = .ok (.putfield 19, 3) := by decide +kernel
theorem dX2_init_36 : decode cX2_init 36 = .ok (.aload_n 0, 1) := by decide +kernel
theorem dX2_init_37 : decode cX2_init 37 = .ok (.bipush 96, 2) := by decide +kernel
theorem dX2_init_39 : decode cX2_init 39 = .ok (.newarray .int, 2) := by decide +kernel
theorem dX2_init_41 : decode cX2_init 41 = .ok (.putfield 22, 3) := by decide +kernel
theorem dX2_init_44 : decode cX2_init 44 = .ok (.aload_n 0, 1) := by decide +kernel
theorem dX2_init_45 : decode cX2_init 45 = .ok (.bipush 16, 2) := by decide +kernel
theorem dX2_init_47 : decode cX2_init 47 = .ok (.newarray .int, 2) := by decide +kernel
theorem dX2_init_49 : decode cX2_init 49 = .ok (.putfield 25, 3) := by decide +kernel
theorem dX2_init_52 : decode cX2_init 52 = .ok (.aload_n 0, 1) := by decide +kernel
theorem dX2_init_53 : decode cX2_init 53 = .ok (.bipush 7, 2) := by decide +kernel
theorem dX2_init_55 : decode cX2_init 55 = .ok (.newarray .int, 2) := by decide +kernel
theorem dX2_init_57 : decode cX2_init 57 = .ok (.putfield 28, 3) := by decide +kernel
theorem dX2_init_60 : decode cX2_init 60 = .ok (.aload_n 0, 1) := by decide +kernel
theorem dX2_init_61 : decode cX2_init 61 = .ok (.iconst 3, 1) := by decide +kernel
theorem dX2_init_62 : decode cX2_init 62 = .ok (.newarray .int, 2) := by decide +kernel
theorem dX2_init_64 : decode cX2_init 64 = .ok (.putfield 31, 3) := by decide +kernel
theorem dX2_init_67 : decode cX2_init 67 = .ok (.aload_n 0, 1) := by decide +kernel
