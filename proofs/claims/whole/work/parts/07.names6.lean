theorem dX2_rocket_26 : decode cX2_rocket 26 = .ok (.getfield 9, 3) := by decide +kernel
theorem dX2_rocket_29 : decode cX2_rocket 29 = .ok (.iload_n 1, 1) := by decide +kernel
theorem dX2_rocket_30 : decode cX2_rocket 30 = .ok (.iconst 1, 1) := by decide +kernel
theorem dX2_rocket_31 : decode cX2_rocket 31 = .ok (.invokestatic 44, 3) := by decide +kernel
theorem dX2_rocket_34 : decode cX2_rocket 34 = .ok (.iaload, 1) := by decide +kernel
theorem dX2_rocket_35 : decode cX2_rocket 35 = .ok (.istore 4, 2) := by decide +kernel
theorem dX2_rocket_37 : decode cX2_rocket 37 = .ok (.iload_n 2, 1) := by decide +kernel
theorem dX2_rocket_38 : decode cX2_rocket 38 = .ok (.tableswitch 98 0 8 #[50, 50, 50, 50, 61, 66, 73, 80, 89], 50) := by decide +kernel
theorem dX2_rocket_88 : decode cX2_rocket 88 = .ok (.aload_n 0, 1) := by decide +kernel
theorem dX2_rocket_89 : decode cX2_rocket 89 = .ok (.getfield 9, 3) := by decide +kernel
theorem dX2_rocket_92 : decode cX2_rocket 92 = .ok (.iload_n 1, 1) := by decide +kernel
theorem dX2_rocket_93 : decode cX2_rocket 93 = .ok (.iload_n 2, 1) := by decide +kernel
theorem dX2_rocket_94 : decode cX2_rocket 94 = .ok (.invokestatic 44, 3) := by decide +kernel
theorem dX2_rocket_97 : decode cX2_rocket 97 = .ok (.iaload, 1) := by decide +kernel
theorem dX2_rocket_98 : decode cX2_rocket 98 = .ok (.ireturn, 1) := by decide +kernel
theorem dX2_rocket_99 : decode cX2_rocket 99 = .ok (.iload_n 3, 1) := by decide +kernel
theorem dX2_rocket_100 : decode cX2_rocket 100 = .ok (.invokestatic 69, 3) := by decide +kernel
theorem dX2_rocket_103 : decode cX2_rocket 103 = .ok (.ireturn, 1) := by decide +kernel
theorem dX2_rocket_104 : decode cX2_rocket 104 = .ok (.iload_n 3, 1) := by decide +kernel
theorem dX2_rocket_105 : decode cX2_rocket 105 = .ok (.iload 4, 2) := by decide +kernel
theorem dX2_rocket_107 : decode cX2_rocket 107 = .ok (.invokestatic 58, 3) := by decide +kernel
theorem dX2_rocket_110 : decode cX2_rocket 110 = .ok (.ireturn, 1) := by decide +kernel
theorem dX2_rocket_111 : decode cX2_rocket 111 = .ok (.iload_n 3, 1) := by decide +kernel
theorem dX2_rocket_112 : decode cX2_rocket 112 = .ok (.iload 4, 2) := by decide +kernel
theorem dX2_rocket_114 : decode cX2_rocket 114 = .ok (.invokestatic 141, 3) := by decide +kernel
theorem dX2_rocket_117 : decode cX2_rocket 117 = .ok (.ireturn, 1) := by decide +kernel
theorem dX2_rocket_118 : decode cX2_rocket 118 = .ok (.aload_n 0, 1) := by decide +kernel
theorem dX2_rocket_119 : decode cX2_rocket 119 = .ok (.getfield 9, 3) := by decide +kernel
theorem dX2_rocket_122 : decode cX2_rocket 122 = .ok (.iload_n 1, 1) := by decide +kernel
theorem dX2_rocket_123 : decode cX2_rocket 123 = .ok (.invokestatic 51, 3) := by decide +kernel
theorem dX2_rocket_126 : decode cX2_rocket 126 = .ok (.ireturn, 1) := by decide +kernel
theorem dX2_rocket_127 : decode cX2_rocket 127 = .ok (.aload_n 0, 1) := by decide +kernel
theorem dX2_rocket_128 : decode cX2_rocket 128 = .ok (.getfield 9, 3) := by decide +kernel
theorem dX2_rocket_131 : decode cX2_rocket 131 = .ok (.iload_n 1, 1) := by decide +kernel
theorem dX2_rocket_132 : decode cX2_rocket 132 = .ok (.invokestatic 144, 3) := by decide +kernel
theorem dX2_rocket_135 : decode cX2_rocket 135 = .ok (.ireturn, 1) := by decide +kernel
theorem dX2_rocket_136 : decode cX2_rocket 136 = .ok (.aload_n 0, 1) := by decide +kernel
theorem dX2_rocket_137 : decode cX2_rocket 137 = .ok (.bipush (-2), 2) := by decide +kernel
theorem dX2_rocket_139 : decode cX2_rocket 139 = .ok (.invokevirtual 36, 3) := by decide +kernel
theorem dX2_rocket_142 : decode cX2_rocket 142 = .ok (.ireturn, 1) := by decide +kernel
set_option maxRecDepth 20000 in
theorem ggX2_reader_X2_isReader : GoodIn wsX2_reader wsX2_isReader := goodIn_r _ [6, 1, 7, 8, 5, 9, 21, 22, 23, 24, 25, 26, 27, 28, 29, 30, 31, 32, 33] (by decide +kernel) (by decide +kernel)
set_option maxRecDepth 20000 in
theorem gX2_reader_X2_isReader : GoodIn wsX2_reader (wsV RX2 147 RX2 yX2_isReader wsX2_isReader) := goodIn_app (goodIn_of _ (by decide +kernel)) ggX2_reader_X2_isReader
set_option maxRecDepth 20000 in
theorem ggX2_reader_X2_no : GoodIn wsX2_reader wsX2_no := goodIn_r _ [13, 14, 21, 22, 23, 24, 25, 26, 27, 28, 29, 30, 31, 32, 33] (by decide +kernel) (by decide +kernel)
set_option maxRecDepth 20000 in
theorem gX2_reader_X2_no : GoodIn wsX2_reader (wsV RX2 36 RX2 yX2_no wsX2_no) := goodIn_app (goodIn_of _ (by decide +kernel)) ggX2_reader_X2_no
set_option maxRecDepth 20000 in
theorem ggX2_reader_X2_wordsOf : GoodIn wsX2_reader wsX2_wordsOf := goodIn_r _ [17, 18, 19, 5, 20] (by decide +kernel) (by decide +kernel)
set_option maxRecDepth 20000 in
theorem gX2_reader_X2_wordsOf : GoodIn wsX2_reader (va_wsS RX2 91 yX2_wordsOf wsX2_wordsOf) := goodIn_app (goodIn_of _ (by decide +kernel)) ggX2_reader_X2_wordsOf
set_option maxRecDepth 20000 in
theorem ggX2_reader_X2_isIn : GoodIn wsX2_reader wsX2_isIn := goodIn_r _ [9] (by decide +kernel) (by decide +kernel)
set_option maxRecDepth 20000 in
theorem gX2_reader_X2_isIn : GoodIn wsX2_reader (va_wsS RX2 40 yX2_isIn wsX2_isIn) := goodIn_app (goodIn_of _ (by decide +kernel)) ggX2_reader_X2_isIn
set_option maxRecDepth 20000 in
theorem ggX2_reader_X2_ofP : GoodIn wsX2_reader wsX2_ofP := goodIn_r _ [20] (by decide +kernel) (by decide +kernel)
set_option maxRecDepth 20000 in
theorem gX2_reader_X2_ofP : GoodIn wsX2_reader (va_wsS RX2 48 yX2_ofP wsX2_ofP) := goodIn_app (goodIn_of _ (by decide +kernel)) ggX2_reader_X2_ofP
theorem dX2_reader_0 : decode cX2_reader 0 = .ok (.aload_n 0, 1) := by decide +kernel
theorem dX2_reader_1 : decode cX2_reader 1 = .ok (.iload_n 1, 1) := by decide +kernel
theorem dX2_reader_2 : decode cX2_reader 2 = .ok (.invokevirtual 147, 3) := by decide +kernel
theorem dX2_reader_5 : decode cX2_reader 5 = .ok (.ifCond .ne 9, 3) := by decide +kernel
theorem dX2_reader_8 : decode cX2_reader 8 = .ok (.aload_n 0, 1) := by decide +kernel
theorem dX2_reader_9 : decode cX2_reader 9 = .ok (.iconst (-1), 1) := by decide +kernel
theorem dX2_reader_10 : decode cX2_reader 10 = .ok (.invokevirtual 36, 3) := by decide +kernel
theorem dX2_reader_13 : decode cX2_reader 13 = .ok (.ireturn, 1) := by decide +kernel
theorem dX2_reader_14 : decode cX2_reader 14 = .ok (.iload_n 2, 1) := by decide +kernel
theorem dX2_reader_15 : decode cX2_reader 15 = .ok (.iconst 2, 1) := by decide +kernel
theorem dX2_reader_16 : decode cX2_reader 16 = .ok (.if_icmp .ne 14, 3) := by decide +kernel
theorem dX2_reader_19 : decode cX2_reader 19 = .ok (.aload_n 0, 1) := by decide +kernel
theorem dX2_reader_20 : decode cX2_reader 20 = .ok (.getfield 9, 3) := by decide +kernel
theorem dX2_reader_23 : decode cX2_reader 23 = .ok (.iload_n 1, 1) := by decide +kernel
theorem dX2_reader_24 : decode cX2_reader 24 = .ok (.invokestatic 91, 3) := by decide +kernel
theorem dX2_reader_27 : decode cX2_reader 27 = .ok (.goto 31, 3) := by decide +kernel
theorem dX2_reader_30 : decode cX2_reader 30 = .ok (.iload_n 2, 1) := by decide +kernel
theorem dX2_reader_31 : decode cX2_reader 31 = .ok (.iconst 0, 1) := by decide +kernel
theorem dX2_reader_32 : decode cX2_reader 32 = .ok (.iconst 1, 1) := by decide +kernel
theorem dX2_reader_33 : decode cX2_reader 33 = .ok (.invokestatic 40, 3) := by decide +kernel
theorem dX2_reader_36 : decode cX2_reader 36 = .ok (.ifCond .eq 16, 3) := by decide +kernel
theorem dX2_reader_39 : decode cX2_reader 39 = .ok (.aload_n 0, 1) := by decide +kernel
theorem dX2_reader_40 : decode cX2_reader 40 = .ok (.getfield 9, 3) := by decide +kernel
theorem dX2_reader_43 : decode cX2_reader 43 = .ok (.iload_n 1, 1) := by decide +kernel
theorem dX2_reader_44 : decode cX2_reader 44 = .ok (.iload_n 2, 1) := by decide +kernel
theorem dX2_reader_45 : decode cX2_reader 45 = .ok (.invokestatic 48, 3) := by decide +kernel
theorem dX2_reader_48 : decode cX2_reader 48 = .ok (.iaload, 1) := by decide +kernel
theorem dX2_reader_49 : decode cX2_reader 49 = .ok (.goto 9, 3) := by decide +kernel
theorem dX2_reader_52 : decode cX2_reader 52 = .ok (.aload_n 0, 1) := by decide +kernel
theorem dX2_reader_53 : decode cX2_reader 53 = .ok (.bipush (-2), 2) := by decide +kernel
theorem dX2_reader_55 : decode cX2_reader 55 = .ok (.invokevirtual 36, 3) := by decide +kernel
theorem dX2_reader_58 : decode cX2_reader 58 = .ok (.ireturn, 1) := by decide +kernel
set_option maxRecDepth 20000 in
theorem ggX2_keeps_X2_isReader : GoodIn wsX2_keeps wsX2_isReader := goodIn_r _ [6, 1, 7, 8, 5, 9, 18, 19, 20, 21, 22, 23, 24, 25, 26, 27, 28, 29, 30] (by decide +kernel) (by decide +kernel)
set_option maxRecDepth 20000 in
theorem gX2_keeps_X2_isReader : GoodIn wsX2_keeps (wsV RX2 147 RX2 yX2_isReader wsX2_isReader) := goodIn_app (goodIn_of _ (by decide +kernel)) ggX2_keeps_X2_isReader
set_option maxRecDepth 20000 in
theorem ggX2_keeps_X2_isIn : GoodIn wsX2_keeps wsX2_isIn := goodIn_r _ [9] (by decide +kernel) (by decide +kernel)
set_option maxRecDepth 20000 in
theorem gX2_keeps_X2_isIn : GoodIn wsX2_keeps (va_wsS RX2 40 yX2_isIn wsX2_isIn) := goodIn_app (goodIn_of _ (by decide +kernel)) ggX2_keeps_X2_isIn
set_option maxRecDepth 20000 in
theorem ggX2_keeps_X2_ofP : GoodIn wsX2_keeps wsX2_ofP := goodIn_r _ [12] (by decide +kernel) (by decide +kernel)
set_option maxRecDepth 20000 in
theorem gX2_keeps_X2_ofP : GoodIn wsX2_keeps (va_wsS RX2 48 yX2_ofP wsX2_ofP) := goodIn_app (goodIn_of _ (by decide +kernel)) ggX2_keeps_X2_ofP
set_option maxRecDepth 20000 in
theorem ggX2_keeps_X2_no : GoodIn wsX2_keeps wsX2_no := goodIn_r _ [16, 17, 18, 19, 20, 21, 22, 23, 24, 25, 26, 27, 28, 29, 30] (by decide +kernel) (by decide +kernel)
set_option maxRecDepth 20000 in
theorem gX2_keeps_X2_no : GoodIn wsX2_keeps (wsV RX2 36 RX2 yX2_no wsX2_no) := goodIn_app (goodIn_of _ (by decide +kernel)) ggX2_keeps_X2_no
theorem dX2_keeps_0 : decode cX2_keeps 0 = .ok (.aload_n 0, 1) := by decide +kernel
theorem dX2_keeps_1 : decode cX2_keeps 1 = .ok (.iload_n 1, 1) := by decide +kernel
theorem dX2_keeps_2 : decode cX2_keeps 2 = .ok (.invokevirtual 147, 3) := by decide +kernel
theorem dX2_keeps_5 : decode cX2_keeps 5 = .ok (.ifCond .eq 27, 3) := by decide +kernel
theorem dX2_keeps_8 : decode cX2_keeps 8 = .ok (.iload_n 2, 1) := by decide +kernel
theorem dX2_keeps_9 : decode cX2_keeps 9 = .ok (.iconst 0, 1) := by decide +kernel
theorem dX2_keeps_10 : decode cX2_keeps 10 = .ok (.iconst 5, 1) := by decide +kernel
theorem dX2_keeps_11 : decode cX2_keeps 11 = .ok (.invokestatic 40, 3) := by decide +kernel
theorem dX2_keeps_14 : decode cX2_keeps 14 = .ok (.ifCond .eq 18, 3) := by decide +kernel
theorem dX2_keeps_17 : decode cX2_keeps 17 = .ok (.aload_n 0, 1) := by decide +kernel
theorem dX2_keeps_18 : decode cX2_keeps 18 = .ok (.getfield 9, 3) := by decide +kernel
theorem dX2_keeps_21 : decode cX2_keeps 21 = .ok (.iload_n 1, 1) := by decide +kernel
theorem dX2_keeps_22 : decode cX2_keeps 22 = .ok (.iconst 2, 1) := by decide +kernel
theorem dX2_keeps_23 : decode cX2_keeps 23 = .ok (.iload_n 2, 1) := by decide +kernel
theorem dX2_keeps_24 : decode cX2_keeps 24 = .ok (.iadd, 1) := by decide +kernel
theorem dX2_keeps_25 : decode cX2_keeps 25 = .ok (.invokestatic 48, 3) := by decide +kernel
theorem dX2_keeps_28 : decode cX2_keeps 28 = .ok (.iaload, 1) := by decide +kernel
theorem dX2_keeps_29 : decode cX2_keeps 29 = .ok (.goto 8, 3) := by decide +kernel
theorem dX2_keeps_32 : decode cX2_keeps 32 = .ok (.aload_n 0, 1) := by decide +kernel
theorem dX2_keeps_33 : decode cX2_keeps 33 = .ok (.iconst (-1), 1) := by decide +kernel
theorem dX2_keeps_34 : decode cX2_keeps 34 = .ok (.invokevirtual 36, 3) := by decide +kernel
theorem dX2_keeps_37 : decode cX2_keeps 37 = .ok (.ireturn, 1) := by decide +kernel
set_option maxRecDepth 20000 in
theorem ggX2_sends_X2_isRocket : GoodIn wsX2_sends wsX2_isRocket := goodIn_r _ [6, 1, 7, 8, 5, 9, 48, 49, 50, 51, 52, 53, 54, 55, 56, 57, 58, 59, 60] (by decide +kernel) (by decide +kernel)
set_option maxRecDepth 20000 in
theorem gX2_sends_X2_isRocket : GoodIn wsX2_sends (wsV RX2 124 RX2 yX2_isRocket wsX2_isRocket) := goodIn_app (goodIn_of _ (by decide +kernel)) ggX2_sends_X2_isRocket
set_option maxRecDepth 20000 in
theorem ggX2_sends_X2_no : GoodIn wsX2_sends wsX2_no := goodIn_r _ [13, 14, 48, 49, 50, 51, 52, 53, 54, 55, 56, 57, 58, 59, 60] (by decide +kernel) (by decide +kernel)
set_option maxRecDepth 20000 in
theorem gX2_sends_X2_no : GoodIn wsX2_sends (wsV RX2 36 RX2 yX2_no wsX2_no) := goodIn_app (goodIn_of _ (by decide +kernel)) ggX2_sends_X2_no
set_option maxRecDepth 20000 in
theorem ggX2_sends_X2_canGo : GoodIn wsX2_sends wsX2_canGo := goodIn_r _ [17, 18, 19, 5, 20, 21, 22, 23] (by decide +kernel) (by decide +kernel)
set_option maxRecDepth 20000 in
theorem gX2_sends_X2_canGo : GoodIn wsX2_sends (va_wsS RX2 76 yX2_canGo wsX2_canGo) := goodIn_app (goodIn_of _ (by decide +kernel)) ggX2_sends_X2_canGo
set_option maxRecDepth 20000 in
theorem ggX2_sends_X2_sendsIn : GoodIn wsX2_sends wsX2_sendsIn := goodIn_r _ [26, 18, 19, 5, 20, 21, 22, 23, 27, 28, 29, 30, 31, 32, 33, 34, 35, 36, 37, 38, 39, 40, 41, 42, 43, 44, 45, 46, 47] (by decide +kernel) (by decide +kernel)
set_option maxRecDepth 20000 in
theorem gX2_sends_X2_sendsIn : GoodIn wsX2_sends (va_wsS RX2 84 yX2_sendsIn wsX2_sendsIn) := goodIn_app (goodIn_of _ (by decide +kernel)) ggX2_sends_X2_sendsIn
theorem dX2_sends_0 : decode cX2_sends 0 = .ok (.aload_n 0, 1) := by decide +kernel
theorem dX2_sends_1 : decode cX2_sends 1 = .ok (.iload_n 1, 1) := by decide +kernel
theorem dX2_sends_2 : decode cX2_sends 2 = .ok (.invokevirtual 124, 3) := by decide +kernel
theorem dX2_sends_5 : decode cX2_sends 5 = .ok (.ifCond .ne 9, 3) := by decide +kernel
theorem dX2_sends_8 : decode cX2_sends 8 = .ok (.aload_n 0, 1) := by decide +kernel
theorem dX2_sends_9 : decode cX2_sends 9 = .ok (.iconst (-1), 1) := by decide +kernel
theorem dX2_sends_10 : decode cX2_sends 10 = .ok (.invokevirtual 36, 3) := by decide +kernel
theorem dX2_sends_13 : decode cX2_sends 13 = .ok (.ireturn, 1) := by decide +kernel
theorem dX2_sends_14 : decode cX2_sends 14 = .ok (.aload_n 0, 1) := by decide +kernel
theorem dX2_sends_15 : decode cX2_sends 15 = .ok (.getfield 9, 3) := by decide +kernel
theorem dX2_sends_18 : decode cX2_sends 18 = .ok (.iload_n 1, 1) := by decide +kernel
theorem dX2_sends_19 : decode cX2_sends 19 = .ok (.invokestatic 76, 3) := by decide +kernel
theorem dX2_sends_22 : decode cX2_sends 22 = .ok (.ifCond .ne 10, 3) := by decide +kernel
theorem dX2_sends_25 : decode cX2_sends 25 = .ok (.aload_n 0, 1) := by decide +kernel
theorem dX2_sends_26 : decode cX2_sends 26 = .ok (.bipush (-3), 2) := by decide +kernel
theorem dX2_sends_28 : decode cX2_sends 28 = .ok (.invokevirtual 36, 3) := by decide +kernel
theorem dX2_sends_31 : decode cX2_sends 31 = .ok (.ireturn, 1) := by decide +kernel
theorem dX2_sends_32 : decode cX2_sends 32 = .ok (.aload_n 0, 1) := by decide +kernel
theorem dX2_sends_33 : decode cX2_sends 33 = .ok (.getfield 9, 3) := by decide +kernel
theorem dX2_sends_36 : decode cX2_sends 36 = .ok (.iload_n 1, 1) := by decide +kernel
theorem dX2_sends_37 : decode cX2_sends 37 = .ok (.iconst (-1), 1) := by decide +kernel
theorem dX2_sends_38 : decode cX2_sends 38 = .ok (.invokestatic 84, 3) := by decide +kernel
theorem dX2_sends_41 : decode cX2_sends 41 = .ok (.aload_n 0, 1) := by decide +kernel
theorem dX2_sends_42 : decode cX2_sends 42 = .ok (.getfield 9, 3) := by decide +kernel
theorem dX2_sends_45 : decode cX2_sends 45 = .ok (.iconst 3, 1) := by decide +kernel
theorem dX2_sends_46 : decode cX2_sends 46 = .ok (.iaload, 1) := by decide +kernel
theorem dX2_sends_47 : decode cX2_sends 47 = .ok (.ireturn, 1) := by decide +kernel
set_option maxRecDepth 20000 in
theorem ggX2_boxes_X2_isRocket : GoodIn wsX2_boxes wsX2_isRocket := goodIn_r _ [6, 1, 7, 8, 5, 9, 24, 25, 26, 27, 28, 29, 30, 31, 32, 33, 34, 35, 36] (by decide +kernel) (by decide +kernel)
set_option maxRecDepth 20000 in
theorem gX2_boxes_X2_isRocket : GoodIn wsX2_boxes (wsV RX2 124 RX2 yX2_isRocket wsX2_isRocket) := goodIn_app (goodIn_of _ (by decide +kernel)) ggX2_boxes_X2_isRocket
set_option maxRecDepth 20000 in
theorem ggX2_boxes_X2_no : GoodIn wsX2_boxes wsX2_no := goodIn_r _ [13, 14, 24, 25, 26, 27, 28, 29, 30, 31, 32, 33, 34, 35, 36] (by decide +kernel) (by decide +kernel)
set_option maxRecDepth 20000 in
theorem gX2_boxes_X2_no : GoodIn wsX2_boxes (wsV RX2 36 RX2 yX2_no wsX2_no) := goodIn_app (goodIn_of _ (by decide +kernel)) ggX2_boxes_X2_no
set_option maxRecDepth 20000 in
theorem ggX2_boxes_X2_ofR : GoodIn wsX2_boxes wsX2_ofR := goodIn_r _ [17] (by decide +kernel) (by decide +kernel)
set_option maxRecDepth 20000 in
theorem gX2_boxes_X2_ofR : GoodIn wsX2_boxes (va_wsS RX2 44 yX2_ofR wsX2_ofR) := goodIn_app (goodIn_of _ (by decide +kernel)) ggX2_boxes_X2_ofR
set_option maxRecDepth 20000 in
theorem ggX2_boxes_X2_sentIn : GoodIn wsX2_boxes wsX2_sentIn := goodIn_r _ [20, 15, 16, 5, 17] (by decide +kernel) (by decide +kernel)
set_option maxRecDepth 20000 in
theorem gX2_boxes_X2_sentIn : GoodIn wsX2_boxes (va_wsS RX2 150 yX2_sentIn wsX2_sentIn) := goodIn_app (goodIn_of _ (by decide +kernel)) ggX2_boxes_X2_sentIn
set_option maxRecDepth 20000 in
theorem ggX2_boxes_X2_bits : GoodIn wsX2_boxes wsX2_bits := goodIn_r _ [23] (by decide +kernel) (by decide +kernel)
set_option maxRecDepth 20000 in
theorem gX2_boxes_X2_bits : GoodIn wsX2_boxes (va_wsS RX2 94 yX2_bits wsX2_bits) := goodIn_app (goodIn_of _ (by decide +kernel)) ggX2_boxes_X2_bits
theorem dX2_boxes_0 : decode cX2_boxes 0 = .ok (.aload_n 0, 1) := by decide +kernel
theorem dX2_boxes_1 : decode cX2_boxes 1 = .ok (.iload_n 1, 1) := by decide +kernel
theorem dX2_boxes_2 : decode cX2_boxes 2 = .ok (.invokevirtual 124, 3) := by decide +kernel
theorem dX2_boxes_5 : decode cX2_boxes 5 = .ok (.ifCond .ne 9, 3) := by decide +kernel
theorem dX2_boxes_8 : decode cX2_boxes 8 = .ok (.aload_n 0, 1) := by decide +kernel
theorem dX2_boxes_9 : decode cX2_boxes 9 = .ok (.iconst (-1), 1) := by decide +kernel
theorem dX2_boxes_10 : decode cX2_boxes 10 = .ok (.invokevirtual 36, 3) := by decide +kernel
theorem dX2_boxes_13 : decode cX2_boxes 13 = .ok (.ireturn, 1) := by decide +kernel
theorem dX2_boxes_14 : decode cX2_boxes 14 = .ok (.aload_n 0, 1) := by decide +kernel
theorem dX2_boxes_15 : decode cX2_boxes 15 = .ok (.getfield 9, 3) := by decide +kernel
theorem dX2_boxes_18 : decode cX2_boxes 18 = .ok (.iload_n 1, 1) := by decide +kernel
theorem dX2_boxes_19 : decode cX2_boxes 19 = .ok (.iconst 3, 1) := by decide +kernel
theorem dX2_boxes_20 : decode cX2_boxes 20 = .ok (.invokestatic 44, 3) := by decide +kernel
theorem dX2_boxes_23 : decode cX2_boxes 23 = .ok (.iaload, 1) := by decide +kernel
theorem dX2_boxes_24 : decode cX2_boxes 24 = .ok (.ifCond .ne 10, 3) := by decide +kernel
theorem dX2_boxes_27 : decode cX2_boxes 27 = .ok (.aload_n 0, 1) := by decide +kernel
theorem dX2_boxes_28 : decode cX2_boxes 28 = .ok (.bipush (-3), 2) := by decide +kernel
theorem dX2_boxes_30 : decode cX2_boxes 30 = .ok (.invokevirtual 36, 3) := by decide +kernel
theorem dX2_boxes_33 : decode cX2_boxes 33 = .ok (.ireturn, 1) := by decide +kernel
theorem dX2_boxes_34 : decode cX2_boxes 34 = .ok (.aload_n 0, 1) := by decide +kernel
theorem dX2_boxes_35 : decode cX2_boxes 35 = .ok (.getfield 9, 3) := by decide +kernel
theorem dX2_boxes_38 : decode cX2_boxes 38 = .ok (.iload_n 1, 1) := by decide +kernel
theorem dX2_boxes_39 : decode cX2_boxes 39 = .ok (.iconst 3, 1) := by decide +kernel
theorem dX2_boxes_40 : decode cX2_boxes 40 = .ok (.invokestatic 44, 3) := by decide +kernel
theorem dX2_boxes_43 : decode cX2_boxes 43 = .ok (.iconst 0, 1) := by decide +kernel
theorem dX2_boxes_44 : decode cX2_boxes 44 = .ok (.iastore, 1) := by decide +kernel
theorem dX2_boxes_45 : decode cX2_boxes 45 = .ok (.aload_n 0, 1) := by decide +kernel
theorem dX2_boxes_46 : decode cX2_boxes 46 = .ok (.getfield 9, 3) := by decide +kernel
theorem dX2_boxes_49 : decode cX2_boxes 49 = .ok (.iconst 0, 1) := by decide +kernel
theorem dX2_boxes_50 : decode cX2_boxes 50 = .ok (.iaload, 1) := by decide +kernel
theorem dX2_boxes_51 : decode cX2_boxes 51 = .ok (.aload_n 0, 1) := by decide +kernel
theorem dX2_boxes_52 : decode cX2_boxes 52 = .ok (.getfield 9, 3) := by decide +kernel
theorem dX2_boxes_55 : decode cX2_boxes 55 = .ok (.invokestatic 150, 3) := by decide +kernel
theorem dX2_boxes_58 : decode cX2_boxes 58 = .ok (.invokestatic 94, 3) := by decide +kernel
theorem dX2_boxes_61 : decode cX2_boxes 61 = .ok (.isub, 1) := by decide +kernel
theorem dX2_boxes_62 : decode cX2_boxes 62 = .ok (.ireturn, 1) := by decide +kernel
theorem dX2_wrongBy_0 : decode cX2_wrongBy 0 = .ok (.iload_n 0, 1) := by decide +kernel
theorem dX2_wrongBy_1 : decode cX2_wrongBy 1 = .ok (.iload_n 1, 1) := by decide +kernel
theorem dX2_wrongBy_2 : decode cX2_wrongBy 2 = .ok (.if_icmp .ge 8, 3) := by decide +kernel
theorem dX2_wrongBy_5 : decode cX2_wrongBy 5 = .ok (.bipush (-4), 2) := by decide +kernel
theorem dX2_wrongBy_7 : decode cX2_wrongBy 7 = .ok (.goto 14, 3) := by decide +kernel
theorem dX2_wrongBy_10 : decode cX2_wrongBy 10 = .ok (.iload_n 0, 1) := by decide +kernel
theorem dX2_wrongBy_11 : decode cX2_wrongBy 11 = .ok (.iload_n 2, 1) := by decide +kernel
theorem dX2_wrongBy_12 : decode cX2_wrongBy 12 = .ok (.if_icmp .le 8, 3) := by decide +kernel
theorem dX2_wrongBy_15 : decode cX2_wrongBy 15 = .ok (.bipush (-6), 2) := by decide +kernel
theorem dX2_wrongBy_17 : decode cX2_wrongBy 17 = .ok (.goto 4, 3) := by decide +kernel
theorem dX2_wrongBy_20 : decode cX2_wrongBy 20 = .ok (.iconst 0, 1) := by decide +kernel
theorem dX2_wrongBy_21 : decode cX2_wrongBy 21 = .ok (.ireturn, 1) := by decide +kernel
set_option maxRecDepth 20000 in
theorem ggX2_sets_X2_wrongBy : GoodIn wsX2_sets wsX2_wrongBy := goodIn_r _ [5] (by decide +kernel) (by decide +kernel)
set_option maxRecDepth 20000 in
theorem gX2_sets_X2_wrongBy : GoodIn wsX2_sets (va_wsS RX2 153 yX2_wrongBy wsX2_wrongBy) := goodIn_app (goodIn_of _ (by decide +kernel)) ggX2_sets_X2_wrongBy
set_option maxRecDepth 20000 in
theorem ggX2_sets_X2_no : GoodIn wsX2_sets wsX2_no := goodIn_r _ [9, 10, 11, 12, 13, 14, 15, 16, 17, 18, 19, 20, 21, 22, 23] (by decide +kernel) (by decide +kernel)
set_option maxRecDepth 20000 in
theorem gX2_sets_X2_no : GoodIn wsX2_sets (wsV RX2 36 RX2 yX2_no wsX2_no) := goodIn_app (goodIn_of _ (by decide +kernel)) ggX2_sets_X2_no
theorem dX2_sets_0 : decode cX2_sets 0 = .ok (.iload_n 2, 1) := by decide +kernel
theorem dX2_sets_1 : decode cX2_sets 1 = .ok (.iconst 0, 1) := by decide +kernel
theorem dX2_sets_2 : decode cX2_sets 2 = .ok (.iload_n 3, 1) := by decide +kernel
theorem dX2_sets_3 : decode cX2_sets 3 = .ok (.invokestatic 153, 3) := by decide +kernel
theorem dX2_sets_6 : decode cX2_sets 6 = .ok (.istore 4, 2) := by decide +kernel
theorem dX2_sets_8 : decode cX2_sets 8 = .ok (.iload 4, 2) := by decide +kernel
theorem dX2_sets_10 : decode cX2_sets 10 = .ok (.ifCond .eq 10, 3) := by decide +kernel
theorem dX2_sets_13 : decode cX2_sets 13 = .ok (.aload_n 0, 1) := by decide +kernel
theorem dX2_sets_14 : decode cX2_sets 14 = .ok (.iload 4, 2) := by decide +kernel
theorem dX2_sets_16 : decode cX2_sets 16 = .ok (.invokevirtual 36, 3) := by decide +kernel
theorem dX2_sets_19 : decode cX2_sets 19 = .ok (.ireturn, 1) := by decide +kernel
theorem dX2_sets_20 : decode cX2_sets 20 = .ok (.aload_n 0, 1) := by decide +kernel
theorem dX2_sets_21 : decode cX2_sets 21 = .ok (.getfield 9, 3) := by decide +kernel
theorem dX2_sets_24 : decode cX2_sets 24 = .ok (.iload_n 1, 1) := by decide +kernel
theorem dX2_sets_25 : decode cX2_sets 25 = .ok (.iaload, 1) := by decide +kernel
theorem dX2_sets_26 : decode cX2_sets 26 = .ok (.istore 5, 2) := by decide +kernel
theorem dX2_sets_28 : decode cX2_sets 28 = .ok (.aload_n 0, 1) := by decide +kernel
theorem dX2_sets_29 : decode cX2_sets 29 = .ok (.getfield 9, 3) := by decide +kernel
theorem dX2_sets_32 : decode cX2_sets 32 = .ok (.iload_n 1, 1) := by decide +kernel
theorem dX2_sets_33 : decode cX2_sets 33 = .ok (.iload_n 2, 1) := by decide +kernel
theorem dX2_sets_34 : decode cX2_sets 34 = .ok (.iastore, 1) := by decide +kernel
theorem dX2_sets_35 : decode cX2_sets 35 = .ok (.iload 5, 2) := by decide +kernel
theorem dX2_sets_37 : decode cX2_sets 37 = .ok (.ireturn, 1) := by decide +kernel
set_option maxRecDepth 20000 in
theorem ggX2_wind_X2_sets : GoodIn wsX2_wind wsX2_sets := goodIn_r _ [5, 6, 7, 8, 4, 9, 10, 11, 12, 13, 14, 15, 16, 17, 18, 19, 20, 21, 22, 23, 24, 25, 26, 27] (by decide +kernel) (by decide +kernel)
set_option maxRecDepth 20000 in
theorem gX2_wind_X2_sets : GoodIn wsX2_wind (wsV RX2 157 RX2 yX2_sets wsX2_sets) := goodIn_app (goodIn_of _ (by decide +kernel)) ggX2_wind_X2_sets
theorem dX2_wind_0 : decode cX2_wind 0 = .ok (.aload_n 0, 1) := by decide +kernel
theorem dX2_wind_1 : decode cX2_wind 1 = .ok (.iconst 4, 1) := by decide +kernel
theorem dX2_wind_2 : decode cX2_wind 2 = .ok (.iload_n 1, 1) := by decide +kernel
theorem dX2_wind_3 : decode cX2_wind 3 = .ok (.bipush 9, 2) := by decide +kernel
theorem dX2_wind_5 : decode cX2_wind 5 = .ok (.invokevirtual 157, 3) := by decide +kernel
theorem dX2_wind_8 : decode cX2_wind 8 = .ok (.ireturn, 1) := by decide +kernel
set_option maxRecDepth 20000 in
theorem ggX2_grant_X2_sets : GoodIn wsX2_grant wsX2_sets := goodIn_r _ [5, 6, 7, 8, 4, 9, 10, 11, 12, 13, 14, 15, 16, 17, 18, 19, 20, 21, 22, 23, 24, 25, 26, 27] (by decide +kernel) (by decide +kernel)
set_option maxRecDepth 20000 in
theorem gX2_grant_X2_sets : GoodIn wsX2_grant (wsV RX2 157 RX2 yX2_sets wsX2_sets) := goodIn_app (goodIn_of _ (by decide +kernel)) ggX2_grant_X2_sets
theorem dX2_grant_0 : decode cX2_grant 0 = .ok (.aload_n 0, 1) := by decide +kernel
theorem dX2_grant_1 : decode cX2_grant 1 = .ok (.iconst 3, 1) := by decide +kernel
theorem dX2_grant_2 : decode cX2_grant 2 = .ok (.iload_n 1, 1) := by decide +kernel
theorem dX2_grant_3 : decode cX2_grant 3 = .ok (.sipush 999, 3) := by decide +kernel
theorem dX2_grant_6 : decode cX2_grant 6 = .ok (.invokevirtual 157, 3) := by decide +kernel
theorem dX2_grant_9 : decode cX2_grant 9 = .ok (.ireturn, 1) := by decide +kernel
set_option maxRecDepth 20000 in
theorem ggX2_stands_X2_isReader : GoodIn wsX2_stands wsX2_isReader := goodIn_r _ [5, 6, 7, 8, 4, 9, 25, 26, 27, 28, 29, 30, 31, 32, 33, 34, 35, 36, 37] (by decide +kernel) (by decide +kernel)
set_option maxRecDepth 20000 in
theorem gX2_stands_X2_isReader : GoodIn wsX2_stands (wsV RX2 147 RX2 yX2_isReader wsX2_isReader) := goodIn_app (goodIn_of _ (by decide +kernel)) ggX2_stands_X2_isReader
set_option maxRecDepth 20000 in
theorem ggX2_stands_X2_isIn : GoodIn wsX2_stands wsX2_isIn := goodIn_r _ [9] (by decide +kernel) (by decide +kernel)
set_option maxRecDepth 20000 in
theorem gX2_stands_X2_isIn : GoodIn wsX2_stands (va_wsS RX2 40 yX2_isIn wsX2_isIn) := goodIn_app (goodIn_of _ (by decide +kernel)) ggX2_stands_X2_isIn
set_option maxRecDepth 20000 in
theorem ggX2_stands_X2_ofP : GoodIn wsX2_stands wsX2_ofP := goodIn_r _ [12] (by decide +kernel) (by decide +kernel)
set_option maxRecDepth 20000 in
theorem gX2_stands_X2_ofP : GoodIn wsX2_stands (va_wsS RX2 48 yX2_ofP wsX2_ofP) := goodIn_app (goodIn_of _ (by decide +kernel)) ggX2_stands_X2_ofP
set_option maxRecDepth 20000 in
theorem ggX2_stands_X2_sets : GoodIn wsX2_stands wsX2_sets := goodIn_r _ [16, 6, 17, 18, 4, 19, 20, 21, 22, 23, 24, 25, 26, 27, 28, 29, 30, 31, 32, 33, 34, 35, 36, 37] (by decide +kernel) (by decide +kernel)
set_option maxRecDepth 20000 in
theorem gX2_stands_X2_sets : GoodIn wsX2_stands (wsV RX2 157 RX2 yX2_sets wsX2_sets) := goodIn_app (goodIn_of _ (by decide +kernel)) ggX2_stands_X2_sets
set_option maxRecDepth 20000 in
theorem ggX2_stands_X2_no : GoodIn wsX2_stands wsX2_no := goodIn_r _ [23, 24, 25, 26, 27, 28, 29, 30, 31, 32, 33, 34, 35, 36, 37] (by decide +kernel) (by decide +kernel)
set_option maxRecDepth 20000 in
theorem gX2_stands_X2_no : GoodIn wsX2_stands (wsV RX2 36 RX2 yX2_no wsX2_no) := goodIn_app (goodIn_of _ (by decide +kernel)) ggX2_stands_X2_no
theorem dX2_stands_0 : decode cX2_stands 0 = .ok (.aload_n 0, 1) := by decide +kernel
theorem dX2_stands_1 : decode cX2_stands 1 = .ok (.iload_n 1, 1) := by decide +kernel
theorem dX2_stands_2 : decode cX2_stands 2 = .ok (.invokevirtual 147, 3) := by decide +kernel
theorem dX2_stands_5 : decode cX2_stands 5 = .ok (.ifCond .eq 28, 3) := by decide +kernel
theorem dX2_stands_8 : decode cX2_stands 8 = .ok (.iload_n 2, 1) := by decide +kernel
theorem dX2_stands_9 : decode cX2_stands 9 = .ok (.iconst 0, 1) := by decide +kernel
theorem dX2_stands_10 : decode cX2_stands 10 = .ok (.bipush 19, 2) := by decide +kernel
theorem dX2_stands_12 : decode cX2_stands 12 = .ok (.invokestatic 40, 3) := by decide +kernel
theorem dX2_stands_15 : decode cX2_stands 15 = .ok (.ifCond .eq 18, 3) := by decide +kernel
theorem dX2_stands_18 : decode cX2_stands 18 = .ok (.aload_n 0, 1) := by decide +kernel
theorem dX2_stands_19 : decode cX2_stands 19 = .ok (.iload_n 1, 1) := by decide +kernel
theorem dX2_stands_20 : decode cX2_stands 20 = .ok (.iconst 0, 1) := by decide +kernel
theorem dX2_stands_21 : decode cX2_stands 21 = .ok (.invokestatic 48, 3) := by decide +kernel
theorem dX2_stands_24 : decode cX2_stands 24 = .ok (.iload_n 2, 1) := by decide +kernel
theorem dX2_stands_25 : decode cX2_stands 25 = .ok (.bipush 20, 2) := by decide +kernel
theorem dX2_stands_27 : decode cX2_stands 27 = .ok (.invokevirtual 157, 3) := by decide +kernel
theorem dX2_stands_30 : decode cX2_stands 30 = .ok (.goto 8, 3) := by decide +kernel
theorem dX2_stands_33 : decode cX2_stands 33 = .ok (.aload_n 0, 1) := by decide +kernel
theorem dX2_stands_34 : decode cX2_stands 34 = .ok (.iconst (-1), 1) := by decide +kernel
theorem dX2_stands_35 : decode cX2_stands 35 = .ok (.invokevirtual 36, 3) := by decide +kernel
theorem dX2_stands_38 : decode cX2_stands 38 = .ok (.ireturn, 1) := by decide +kernel
set_option maxRecDepth 20000 in
theorem ggX2_turn_X2_isRocket : GoodIn wsX2_turn wsX2_isRocket := goodIn_r _ [6, 1, 7, 8, 5, 9, 21, 22, 23, 24, 25, 26, 27, 28, 29, 30, 31, 32, 33] (by decide +kernel) (by decide +kernel)
set_option maxRecDepth 20000 in
theorem gX2_turn_X2_isRocket : GoodIn wsX2_turn (wsV RX2 124 RX2 yX2_isRocket wsX2_isRocket) := goodIn_app (goodIn_of _ (by decide +kernel)) ggX2_turn_X2_isRocket
set_option maxRecDepth 20000 in
theorem ggX2_turn_X2_isIn : GoodIn wsX2_turn wsX2_isIn := goodIn_r _ [9] (by decide +kernel) (by decide +kernel)
set_option maxRecDepth 20000 in
theorem gX2_turn_X2_isIn : GoodIn wsX2_turn (va_wsS RX2 40 yX2_isIn wsX2_isIn) := goodIn_app (goodIn_of _ (by decide +kernel)) ggX2_turn_X2_isIn
set_option maxRecDepth 20000 in
theorem ggX2_turn_X2_wrongBy : GoodIn wsX2_turn wsX2_wrongBy := goodIn_r _ [12] (by decide +kernel) (by decide +kernel)
set_option maxRecDepth 20000 in
theorem gX2_turn_X2_wrongBy : GoodIn wsX2_turn (va_wsS RX2 153 yX2_wrongBy wsX2_wrongBy) := goodIn_app (goodIn_of _ (by decide +kernel)) ggX2_turn_X2_wrongBy
set_option maxRecDepth 20000 in
theorem ggX2_turn_X2_no : GoodIn wsX2_turn wsX2_no := goodIn_r _ [16, 17, 21, 22, 23, 24, 25, 26, 27, 28, 29, 30, 31, 32, 33] (by decide +kernel) (by decide +kernel)
set_option maxRecDepth 20000 in
theorem gX2_turn_X2_no : GoodIn wsX2_turn (wsV RX2 36 RX2 yX2_no wsX2_no) := goodIn_app (goodIn_of _ (by decide +kernel)) ggX2_turn_X2_no
set_option maxRecDepth 20000 in
theorem ggX2_turn_X2_ofR : GoodIn wsX2_turn wsX2_ofR := goodIn_r _ [20] (by decide +kernel) (by decide +kernel)
set_option maxRecDepth 20000 in
theorem gX2_turn_X2_ofR : GoodIn wsX2_turn (va_wsS RX2 44 yX2_ofR wsX2_ofR) := goodIn_app (goodIn_of _ (by decide +kernel)) ggX2_turn_X2_ofR
theorem dX2_turn_0 : decode cX2_turn 0 = .ok (.aload_n 0, 1) := by decide +kernel
theorem dX2_turn_1 : decode cX2_turn 1 = .ok (.iload_n 1, 1) := by decide +kernel
theorem dX2_turn_2 : decode cX2_turn 2 = .ok (.invokevirtual 124, 3) := by decide +kernel
theorem dX2_turn_5 : decode cX2_turn 5 = .ok (.ifCond .ne 7, 3) := by decide +kernel
theorem dX2_turn_8 : decode cX2_turn 8 = .ok (.iconst (-1), 1) := by decide +kernel
theorem dX2_turn_9 : decode cX2_turn 9 = .ok (.goto 24, 3) := by decide +kernel
theorem dX2_turn_12 : decode cX2_turn 12 = .ok (.iload_n 2, 1) := by decide +kernel
theorem dX2_turn_13 : decode cX2_turn 13 = .ok (.iconst 0, 1) := by decide +kernel
theorem dX2_turn_14 : decode cX2_turn 14 = .ok (.iconst 5, 1) := by decide +kernel
theorem dX2_turn_15 : decode cX2_turn 15 = .ok (.invokestatic 40, 3) := by decide +kernel
theorem dX2_turn_18 : decode cX2_turn 18 = .ok (.ifCond .ne 8, 3) := by decide +kernel
theorem dX2_turn_21 : decode cX2_turn 21 = .ok (.bipush (-2), 2) := by decide +kernel
theorem dX2_turn_23 : decode cX2_turn 23 = .ok (.goto 10, 3) := by decide +kernel
theorem dX2_turn_26 : decode cX2_turn 26 = .ok (.iload_n 3, 1) := by decide +kernel
theorem dX2_turn_27 : decode cX2_turn 27 = .ok (.iconst 0, 1) := by decide +kernel
theorem dX2_turn_28 : decode cX2_turn 28 = .ok (.bipush 9, 2) := by decide +kernel
theorem dX2_turn_30 : decode cX2_turn 30 = .ok (.invokestatic 153, 3) := by decide +kernel
theorem dX2_turn_33 : decode cX2_turn 33 = .ok (.istore 4, 2) := by decide +kernel
theorem dX2_turn_35 : decode cX2_turn 35 = .ok (.iload 4, 2) := by decide +kernel
theorem dX2_turn_37 : decode cX2_turn 37 = .ok (.ifCond .eq 10, 3) := by decide +kernel
theorem dX2_turn_40 : decode cX2_turn 40 = .ok (.aload_n 0, 1) := by decide +kernel
theorem dX2_turn_41 : decode cX2_turn 41 = .ok (.iload 4, 2) := by decide +kernel
theorem dX2_turn_43 : decode cX2_turn 43 = .ok (.invokevirtual 36, 3) := by decide +kernel
theorem dX2_turn_46 : decode cX2_turn 46 = .ok (.ireturn, 1) := by decide +kernel
theorem dX2_turn_47 : decode cX2_turn 47 = .ok (.bipush 10, 2) := by decide +kernel
theorem dX2_turn_49 : decode cX2_turn 49 = .ok (.aload_n 0, 1) := by decide +kernel
theorem dX2_turn_50 : decode cX2_turn 50 = .ok (.getfield 9, 3) := by decide +kernel
theorem dX2_turn_53 : decode cX2_turn 53 = .ok (.iload_n 1, 1) := by decide +kernel
theorem dX2_turn_54 : decode cX2_turn 54 = .ok (.iconst 0, 1) := by decide +kernel
theorem dX2_turn_55 : decode cX2_turn 55 = .ok (.invokestatic 44, 3) := by decide +kernel
theorem dX2_turn_58 : decode cX2_turn 58 = .ok (.iaload, 1) := by decide +kernel
theorem dX2_turn_59 : decode cX2_turn 59 = .ok (.imul, 1) := by decide +kernel
theorem dX2_turn_60 : decode cX2_turn 60 = .ok (.aload_n 0, 1) := by decide +kernel
theorem dX2_turn_61 : decode cX2_turn 61 = .ok (.getfield 9, 3) := by decide +kernel
theorem dX2_turn_64 : decode cX2_turn 64 = .ok (.iload_n 1, 1) := by decide +kernel
theorem dX2_turn_65 : decode cX2_turn 65 = .ok (.iconst 1, 1) := by decide +kernel
theorem dX2_turn_66 : decode cX2_turn 66 = .ok (.invokestatic 44, 3) := by decide +kernel
theorem dX2_turn_69 : decode cX2_turn 69 = .ok (.iaload, 1) := by decide +kernel
theorem dX2_turn_70 : decode cX2_turn 70 = .ok (.iadd, 1) := by decide +kernel
theorem dX2_turn_71 : decode cX2_turn 71 = .ok (.istore 5, 2) := by decide +kernel
theorem dX2_turn_73 : decode cX2_turn 73 = .ok (.aload_n 0, 1) := by decide +kernel
theorem dX2_turn_74 : decode cX2_turn 74 = .ok (.getfield 9, 3) := by decide +kernel
theorem dX2_turn_77 : decode cX2_turn 77 = .ok (.iload_n 1, 1) := by decide +kernel
theorem dX2_turn_78 : decode cX2_turn 78 = .ok (.iconst 0, 1) := by decide +kernel
theorem dX2_turn_79 : decode cX2_turn 79 = .ok (.invokestatic 44, 3) := by decide +kernel
theorem dX2_turn_82 : decode cX2_turn 82 = .ok (.iload_n 2, 1) := by decide +kernel
theorem dX2_turn_83 : decode cX2_turn 83 = .ok (.iastore, 1) := by decide +kernel
theorem dX2_turn_84 : decode cX2_turn 84 = .ok (.aload_n 0, 1) := by decide +kernel
theorem dX2_turn_85 : decode cX2_turn 85 = .ok (.getfield 9, 3) := by decide +kernel
theorem dX2_turn_88 : decode cX2_turn 88 = .ok (.iload_n 1, 1) := by decide +kernel
theorem dX2_turn_89 : decode cX2_turn 89 = .ok (.iconst 1, 1) := by decide +kernel
theorem dX2_turn_90 : decode cX2_turn 90 = .ok (.invokestatic 44, 3) := by decide +kernel
theorem dX2_turn_93 : decode cX2_turn 93 = .ok (.iload_n 3, 1) := by decide +kernel
theorem dX2_turn_94 : decode cX2_turn 94 = .ok (.iastore, 1) := by decide +kernel
theorem dX2_turn_95 : decode cX2_turn 95 = .ok (.iload 5, 2) := by decide +kernel
theorem dX2_turn_97 : decode cX2_turn 97 = .ok (.ireturn, 1) := by decide +kernel
set_option maxRecDepth 20000 in
theorem ggX2_nights_X2_no : GoodIn wsX2_nights wsX2_no := goodIn_r _ [6, 7, 50, 51, 52, 53, 54, 55, 56, 57, 58, 59, 60, 61, 62] (by decide +kernel) (by decide +kernel)
set_option maxRecDepth 20000 in
theorem gX2_nights_X2_no : GoodIn wsX2_nights (wsV RX2 36 RX2 yX2_no wsX2_no) := goodIn_app (goodIn_of _ (by decide +kernel)) ggX2_nights_X2_no
set_option maxRecDepth 20000 in
theorem ggX2_nights_X2_nightsOn : GoodIn wsX2_nights wsX2_nightsOn := goodIn_r _ [10, 11, 12, 5, 13, 14, 15, 16, 17, 18, 19, 20, 21, 22, 23, 24, 25, 26, 27, 28, 29, 30, 31, 32, 33, 34, 35, 36, 37, 38, 39, 40, 41, 42, 43, 44, 45, 46, 47, 48, 49] (by decide +kernel) (by decide +kernel)
set_option maxRecDepth 20000 in
theorem gX2_nights_X2_nightsOn : GoodIn wsX2_nights (va_wsS RX2 128 yX2_nightsOn wsX2_nightsOn) := goodIn_app (goodIn_of _ (by decide +kernel)) ggX2_nights_X2_nightsOn
theorem dX2_nights_0 : decode cX2_nights 0 = .ok (.iload_n 1, 1) := by decide +kernel
theorem dX2_nights_1 : decode cX2_nights 1 = .ok (.iconst 1, 1) := by decide +kernel
theorem dX2_nights_2 : decode cX2_nights 2 = .ok (.if_icmp .ge 10, 3) := by decide +kernel
theorem dX2_nights_5 : decode cX2_nights 5 = .ok (.aload_n 0, 1) := by decide +kernel
theorem dX2_nights_6 : decode cX2_nights 6 = .ok (.bipush (-4), 2) := by decide +kernel
theorem dX2_nights_8 : decode cX2_nights 8 = .ok (.invokevirtual 36, 3) := by decide +kernel
theorem dX2_nights_11 : decode cX2_nights 11 = .ok (.ireturn, 1) := by decide +kernel
theorem dX2_nights_12 : decode cX2_nights 12 = .ok (.iload_n 1, 1) := by decide +kernel
theorem dX2_nights_13 : decode cX2_nights 13 = .ok (.bipush 60, 2) := by decide +kernel
theorem dX2_nights_15 : decode cX2_nights 15 = .ok (.if_icmp .gt 17, 3) := by decide +kernel
theorem dX2_nights_18 : decode cX2_nights 18 = .ok (.aload_n 0, 1) := by decide +kernel
theorem dX2_nights_19 : decode cX2_nights 19 = .ok (.getfield 9, 3) := by decide +kernel
theorem dX2_nights_22 : decode cX2_nights 22 = .ok (.iconst 2, 1) := by decide +kernel
theorem dX2_nights_23 : decode cX2_nights 23 = .ok (.iaload, 1) := by decide +kernel
theorem dX2_nights_24 : decode cX2_nights 24 = .ok (.iload_n 1, 1) := by decide +kernel
theorem dX2_nights_25 : decode cX2_nights 25 = .ok (.iadd, 1) := by decide +kernel
theorem dX2_nights_26 : decode cX2_nights 26 = .ok (.sipush 999, 3) := by decide +kernel
theorem dX2_nights_29 : decode cX2_nights 29 = .ok (.if_icmp .le 10, 3) := by decide +kernel
theorem dX2_nights_32 : decode cX2_nights 32 = .ok (.aload_n 0, 1) := by decide +kernel
theorem dX2_nights_33 : decode cX2_nights 33 = .ok (.bipush (-6), 2) := by decide +kernel
theorem dX2_nights_35 : decode cX2_nights 35 = .ok (.invokevirtual 36, 3) := by decide +kernel
theorem dX2_nights_38 : decode cX2_nights 38 = .ok (.ireturn, 1) := by decide +kernel
theorem dX2_nights_39 : decode cX2_nights 39 = .ok (.aload_n 0, 1) := by decide +kernel
theorem dX2_nights_40 : decode cX2_nights 40 = .ok (.getfield 9, 3) := by decide +kernel
theorem dX2_nights_43 : decode cX2_nights 43 = .ok (.iload_n 1, 1) := by decide +kernel
theorem dX2_nights_44 : decode cX2_nights 44 = .ok (.iconst (-1), 1) := by decide +kernel
theorem dX2_nights_45 : decode cX2_nights 45 = .ok (.invokestatic 128, 3) := by decide +kernel
theorem dX2_nights_48 : decode cX2_nights 48 = .ok (.aload_n 0, 1) := by decide +kernel
theorem dX2_nights_49 : decode cX2_nights 49 = .ok (.getfield 9, 3) := by decide +kernel
theorem dX2_nights_52 : decode cX2_nights 52 = .ok (.iconst 3, 1) := by decide +kernel
theorem dX2_nights_53 : decode cX2_nights 53 = .ok (.iaload, 1) := by decide +kernel
theorem dX2_nights_54 : decode cX2_nights 54 = .ok (.ireturn, 1) := by decide +kernel
set_option maxRecDepth 20000 in
theorem ggX2_takes_X2_copies : GoodIn wsX2_takes wsX2_copies := goodIn_r _ [6] (by decide +kernel) (by decide +kernel)
set_option maxRecDepth 20000 in
theorem gX2_takes_X2_copies : GoodIn wsX2_takes (va_wsS RX2 134 yX2_copies wsX2_copies) := goodIn_app (goodIn_of _ (by decide +kernel)) ggX2_takes_X2_copies
set_option maxRecDepth 20000 in
theorem ggX2_takes_X2_nightsOn : GoodIn wsX2_takes wsX2_nightsOn := goodIn_r _ [9, 10, 11, 5, 12, 13, 14, 15, 16, 17, 18, 19, 20, 21, 22, 23, 24, 25, 26, 27, 28, 29, 30, 31, 32, 33, 34, 35, 36, 37, 38, 39, 40, 41, 42, 43, 44, 45, 46, 47, 48] (by decide +kernel) (by decide +kernel)
set_option maxRecDepth 20000 in
theorem gX2_takes_X2_nightsOn : GoodIn wsX2_takes (va_wsS RX2 128 yX2_nightsOn wsX2_nightsOn) := goodIn_app (goodIn_of _ (by decide +kernel)) ggX2_takes_X2_nightsOn
theorem dX2_takes_0 : decode cX2_takes 0 = .ok (.aload_n 0, 1) := by decide +kernel
theorem dX2_takes_1 : decode cX2_takes 1 = .ok (.getfield 9, 3) := by decide +kernel
theorem dX2_takes_4 : decode cX2_takes 4 = .ok (.aload_n 0, 1) := by decide +kernel
theorem dX2_takes_5 : decode cX2_takes 5 = .ok (.getfield 13, 3) := by decide +kernel
theorem dX2_takes_8 : decode cX2_takes 8 = .ok (.invokestatic 134, 3) := by decide +kernel
theorem dX2_takes_11 : decode cX2_takes 11 = .ok (.aload_n 0, 1) := by decide +kernel
theorem dX2_takes_12 : decode cX2_takes 12 = .ok (.getfield 13, 3) := by decide +kernel
theorem dX2_takes_15 : decode cX2_takes 15 = .ok (.iload_n 1, 1) := by decide +kernel
theorem dX2_takes_16 : decode cX2_takes 16 = .ok (.iconst (-1), 1) := by decide +kernel
theorem dX2_takes_17 : decode cX2_takes 17 = .ok (.invokestatic 128, 3) := by decide +kernel
theorem dX2_takes_20 : decode cX2_takes 20 = .ok (.return_, 1) := by decide +kernel
set_option maxRecDepth 20000 in
theorem ggX2_wordsThen_X2_isReader : GoodIn wsX2_wordsThen wsX2_isReader := goodIn_r _ [6, 7, 8, 9, 5, 10, 71, 72, 73, 74, 75, 76, 77, 78, 79, 80, 81, 82, 83] (by decide +kernel) (by decide +kernel)
set_option maxRecDepth 20000 in
theorem gX2_wordsThen_X2_isReader : GoodIn wsX2_wordsThen (wsV RX2 147 RX2 yX2_isReader wsX2_isReader) := goodIn_app (goodIn_of _ (by decide +kernel)) ggX2_wordsThen_X2_isReader
set_option maxRecDepth 20000 in
theorem ggX2_wordsThen_X2_wrongBy : GoodIn wsX2_wordsThen wsX2_wrongBy := goodIn_r _ [13] (by decide +kernel) (by decide +kernel)
set_option maxRecDepth 20000 in
theorem gX2_wordsThen_X2_wrongBy : GoodIn wsX2_wordsThen (va_wsS RX2 153 yX2_wrongBy wsX2_wrongBy) := goodIn_app (goodIn_of _ (by decide +kernel)) ggX2_wordsThen_X2_wrongBy
set_option maxRecDepth 20000 in
theorem ggX2_wordsThen_X2_no : GoodIn wsX2_wordsThen wsX2_no := goodIn_r _ [17, 18, 71, 72, 73, 74, 75, 76, 77, 78, 79, 80, 81, 82, 83] (by decide +kernel) (by decide +kernel)
set_option maxRecDepth 20000 in
theorem gX2_wordsThen_X2_no : GoodIn wsX2_wordsThen (wsV RX2 36 RX2 yX2_no wsX2_no) := goodIn_app (goodIn_of _ (by decide +kernel)) ggX2_wordsThen_X2_no
set_option maxRecDepth 20000 in
theorem ggX2_wordsThen_X2_takes : GoodIn wsX2_wordsThen wsX2_takes := goodIn_r _ [22, 7, 1, 23, 24, 5, 25, 26, 27, 28, 29, 30, 31, 32, 33, 34, 35, 36, 37, 38, 39, 40, 41, 42, 43, 44, 45, 46, 47, 48, 49, 50, 51, 52, 53, 54, 55, 56, 57, 58, 59, 60, 61, 62, 63, 64, 65, 66, 67, 71, 72, 73, 74, 75, 76, 77, 78, 79, 80, 81, 82, 83] (by decide +kernel) (by decide +kernel)
set_option maxRecDepth 20000 in
theorem gX2_wordsThen_X2_takes : GoodIn wsX2_wordsThen (wsV RX2 160 RX2 yX2_takes wsX2_takes) := goodIn_app (goodIn_of _ (by decide +kernel)) ggX2_wordsThen_X2_takes
set_option maxRecDepth 20000 in
theorem ggX2_wordsThen_X2_wordsOf : GoodIn wsX2_wordsThen wsX2_wordsOf := goodIn_r _ [70, 32, 33, 5, 34] (by decide +kernel) (by decide +kernel)
set_option maxRecDepth 20000 in
theorem gX2_wordsThen_X2_wordsOf : GoodIn wsX2_wordsThen (va_wsS RX2 91 yX2_wordsOf wsX2_wordsOf) := goodIn_app (goodIn_of _ (by decide +kernel)) ggX2_wordsThen_X2_wordsOf
theorem dX2_wordsThen_0 : decode cX2_wordsThen 0 = .ok (.aload_n 0, 1) := by decide +kernel
theorem dX2_wordsThen_1 : decode cX2_wordsThen 1 = .ok (.iload_n 1, 1) := by decide +kernel
theorem dX2_wordsThen_2 : decode cX2_wordsThen 2 = .ok (.invokevirtual 147, 3) := by decide +kernel
theorem dX2_wordsThen_5 : decode cX2_wordsThen 5 = .ok (.ifCond .eq 13, 3) := by decide +kernel
theorem dX2_wordsThen_8 : decode cX2_wordsThen 8 = .ok (.iload_n 2, 1) := by decide +kernel
theorem dX2_wordsThen_9 : decode cX2_wordsThen 9 = .ok (.iconst 0, 1) := by decide +kernel
theorem dX2_wordsThen_10 : decode cX2_wordsThen 10 = .ok (.bipush 60, 2) := by decide +kernel
theorem dX2_wordsThen_12 : decode cX2_wordsThen 12 = .ok (.invokestatic 153, 3) := by decide +kernel
theorem dX2_wordsThen_15 : decode cX2_wordsThen 15 = .ok (.goto 4, 3) := by decide +kernel
theorem dX2_wordsThen_18 : decode cX2_wordsThen 18 = .ok (.iconst (-1), 1) := by decide +kernel
theorem dX2_wordsThen_19 : decode cX2_wordsThen 19 = .ok (.istore_n 3, 1) := by decide +kernel
theorem dX2_wordsThen_20 : decode cX2_wordsThen 20 = .ok (.iload_n 3, 1) := by decide +kernel
theorem dX2_wordsThen_21 : decode cX2_wordsThen 21 = .ok (.ifCond .eq 9, 3) := by decide +kernel
theorem dX2_wordsThen_24 : decode cX2_wordsThen 24 = .ok (.aload_n 0, 1) := by decide +kernel
theorem dX2_wordsThen_25 : decode cX2_wordsThen 25 = .ok (.iload_n 3, 1) := by decide +kernel
theorem dX2_wordsThen_26 : decode cX2_wordsThen 26 = .ok (.invokevirtual 36, 3) := by decide +kernel
theorem dX2_wordsThen_29 : decode cX2_wordsThen 29 = .ok (.ireturn, 1) := by decide +kernel
theorem dX2_wordsThen_30 : decode cX2_wordsThen 30 = .ok (.aload_n 0, 1) := by decide +kernel
theorem dX2_wordsThen_31 : decode cX2_wordsThen 31 = .ok (.iload_n 2, 1) := by decide +kernel
theorem dX2_wordsThen_32 : decode cX2_wordsThen 32 = .ok (.invokevirtual 160, 3) := by decide +kernel
theorem dX2_wordsThen_35 : decode cX2_wordsThen 35 = .ok (.aload_n 0, 1) := by decide +kernel
theorem dX2_wordsThen_36 : decode cX2_wordsThen 36 = .ok (.getfield 13, 3) := by decide +kernel
theorem dX2_wordsThen_39 : decode cX2_wordsThen 39 = .ok (.iload_n 1, 1) := by decide +kernel
theorem dX2_wordsThen_40 : decode cX2_wordsThen 40 = .ok (.invokestatic 91, 3) := by decide +kernel
theorem dX2_wordsThen_43 : decode cX2_wordsThen 43 = .ok (.ireturn, 1) := by decide +kernel
set_option maxRecDepth 20000 in
theorem ggX2_then_X2_wrongBy : GoodIn wsX2_then wsX2_wrongBy := goodIn_r _ [5] (by decide +kernel) (by decide +kernel)
set_option maxRecDepth 20000 in
theorem gX2_then_X2_wrongBy : GoodIn wsX2_then (va_wsS RX2 153 yX2_wrongBy wsX2_wrongBy) := goodIn_app (goodIn_of _ (by decide +kernel)) ggX2_then_X2_wrongBy
set_option maxRecDepth 20000 in
theorem ggX2_then_X2_isIn : GoodIn wsX2_then wsX2_isIn := goodIn_r _ [8] (by decide +kernel) (by decide +kernel)
set_option maxRecDepth 20000 in
theorem gX2_then_X2_isIn : GoodIn wsX2_then (va_wsS RX2 40 yX2_isIn wsX2_isIn) := goodIn_app (goodIn_of _ (by decide +kernel)) ggX2_then_X2_isIn
set_option maxRecDepth 20000 in
theorem ggX2_then_X2_no : GoodIn wsX2_then wsX2_no := goodIn_r _ [12, 13, 67, 68, 69, 70, 71, 72, 73, 74, 75, 76, 77, 78, 79] (by decide +kernel) (by decide +kernel)
set_option maxRecDepth 20000 in
theorem gX2_then_X2_no : GoodIn wsX2_then (wsV RX2 36 RX2 yX2_no wsX2_no) := goodIn_app (goodIn_of _ (by decide +kernel)) ggX2_then_X2_no
set_option maxRecDepth 20000 in
theorem ggX2_then_X2_takes : GoodIn wsX2_then wsX2_takes := goodIn_r _ [17, 18, 1, 19, 20, 4, 21, 22, 23, 24, 25, 26, 27, 28, 29, 30, 31, 32, 33, 34, 35, 36, 37, 38, 39, 40, 41, 42, 43, 44, 45, 46, 47, 48, 49, 50, 51, 52, 53, 54, 55, 56, 57, 58, 59, 60, 61, 62, 63, 67, 68, 69, 70, 71, 72, 73, 74, 75, 76, 77, 78, 79] (by decide +kernel) (by decide +kernel)
set_option maxRecDepth 20000 in
theorem gX2_then_X2_takes : GoodIn wsX2_then (wsV RX2 160 RX2 yX2_takes wsX2_takes) := goodIn_app (goodIn_of _ (by decide +kernel)) ggX2_then_X2_takes
set_option maxRecDepth 20000 in
theorem ggX2_then_X2_sentIn : GoodIn wsX2_then wsX2_sentIn := goodIn_r _ [66, 37, 38, 4, 39] (by decide +kernel) (by decide +kernel)
set_option maxRecDepth 20000 in
theorem gX2_then_X2_sentIn : GoodIn wsX2_then (va_wsS RX2 150 yX2_sentIn wsX2_sentIn) := goodIn_app (goodIn_of _ (by decide +kernel)) ggX2_then_X2_sentIn
theorem dX2_then_0 : decode cX2_then 0 = .ok (.iload_n 1, 1) := by decide +kernel
theorem dX2_then_1 : decode cX2_then 1 = .ok (.iconst 0, 1) := by decide +kernel
theorem dX2_then_2 : decode cX2_then 2 = .ok (.bipush 60, 2) := by decide +kernel
theorem dX2_then_4 : decode cX2_then 4 = .ok (.invokestatic 153, 3) := by decide +kernel
theorem dX2_then_7 : decode cX2_then 7 = .ok (.istore_n 3, 1) := by decide +kernel
theorem dX2_then_8 : decode cX2_then 8 = .ok (.iload_n 3, 1) := by decide +kernel
theorem dX2_then_9 : decode cX2_then 9 = .ok (.ifCond .ne 15, 3) := by decide +kernel
theorem dX2_then_12 : decode cX2_then 12 = .ok (.iload_n 2, 1) := by decide +kernel
theorem dX2_then_13 : decode cX2_then 13 = .ok (.iconst 0, 1) := by decide +kernel
theorem dX2_then_14 : decode cX2_then 14 = .ok (.iconst 1, 1) := by decide +kernel
theorem dX2_then_15 : decode cX2_then 15 = .ok (.invokestatic 40, 3) := by decide +kernel
theorem dX2_then_18 : decode cX2_then 18 = .ok (.ifCond .ne 6, 3) := by decide +kernel
theorem dX2_then_21 : decode cX2_then 21 = .ok (.bipush (-2), 2) := by decide +kernel
theorem dX2_then_23 : decode cX2_then 23 = .ok (.istore_n 3, 1) := by decide +kernel
theorem dX2_then_24 : decode cX2_then 24 = .ok (.iload_n 3, 1) := by decide +kernel
theorem dX2_then_25 : decode cX2_then 25 = .ok (.ifCond .eq 9, 3) := by decide +kernel
theorem dX2_then_28 : decode cX2_then 28 = .ok (.aload_n 0, 1) := by decide +kernel
theorem dX2_then_29 : decode cX2_then 29 = .ok (.iload_n 3, 1) := by decide +kernel
theorem dX2_then_30 : decode cX2_then 30 = .ok (.invokevirtual 36, 3) := by decide +kernel
theorem dX2_then_33 : decode cX2_then 33 = .ok (.ireturn, 1) := by decide +kernel
theorem dX2_then_34 : decode cX2_then 34 = .ok (.aload_n 0, 1) := by decide +kernel
theorem dX2_then_35 : decode cX2_then 35 = .ok (.iload_n 1, 1) := by decide +kernel
theorem dX2_then_36 : decode cX2_then 36 = .ok (.invokevirtual 160, 3) := by decide +kernel
theorem dX2_then_39 : decode cX2_then 39 = .ok (.iload_n 2, 1) := by decide +kernel
theorem dX2_then_40 : decode cX2_then 40 = .ok (.ifCond .ne 12, 3) := by decide +kernel
theorem dX2_then_43 : decode cX2_then 43 = .ok (.aload_n 0, 1) := by decide +kernel
theorem dX2_then_44 : decode cX2_then 44 = .ok (.getfield 13, 3) := by decide +kernel
theorem dX2_then_47 : decode cX2_then 47 = .ok (.iconst 3, 1) := by decide +kernel
theorem dX2_then_48 : decode cX2_then 48 = .ok (.iaload, 1) := by decide +kernel
theorem dX2_then_49 : decode cX2_then 49 = .ok (.goto 10, 3) := by decide +kernel
theorem dX2_then_52 : decode cX2_then 52 = .ok (.aload_n 0, 1) := by decide +kernel
theorem dX2_then_53 : decode cX2_then 53 = .ok (.getfield 13, 3) := by decide +kernel
theorem dX2_then_56 : decode cX2_then 56 = .ok (.invokestatic 150, 3) := by decide +kernel
theorem dX2_then_59 : decode cX2_then 59 = .ok (.ireturn, 1) := by decide +kernel
set_option maxRecDepth 20000 in
theorem ggX2_wholeOf_X2_copies : GoodIn wsX2_wholeOf wsX2_copies := goodIn_r _ [6] (by decide +kernel) (by decide +kernel)
set_option maxRecDepth 20000 in
theorem gX2_wholeOf_X2_copies : GoodIn wsX2_wholeOf (va_wsS RX2 134 yX2_copies wsX2_copies) := goodIn_app (goodIn_of _ (by decide +kernel)) ggX2_wholeOf_X2_copies
set_option maxRecDepth 20000 in
theorem ggX2_wholeOf_X2_wordsOf : GoodIn wsX2_wholeOf wsX2_wordsOf := goodIn_r _ [9, 10, 11, 5, 12] (by decide +kernel) (by decide +kernel)
set_option maxRecDepth 20000 in
theorem gX2_wholeOf_X2_wordsOf : GoodIn wsX2_wholeOf (va_wsS RX2 91 yX2_wordsOf wsX2_wordsOf) := goodIn_app (goodIn_of _ (by decide +kernel)) ggX2_wholeOf_X2_wordsOf
set_option maxRecDepth 20000 in
theorem ggX2_wholeOf_X2_night : GoodIn wsX2_wholeOf wsX2_night := goodIn_r _ [15, 10, 11, 5, 12, 16, 17, 18, 19, 20, 21, 22, 23, 24, 25, 26, 27, 28, 29, 30, 31, 32, 33, 34, 35, 36, 37, 38, 39, 40, 41, 42, 43, 44, 45, 46, 47, 48] (by decide +kernel) (by decide +kernel)
set_option maxRecDepth 20000 in
theorem gX2_wholeOf_X2_night : GoodIn wsX2_wholeOf (va_wsS RX2 87 yX2_night wsX2_night) := goodIn_app (goodIn_of _ (by decide +kernel)) ggX2_wholeOf_X2_night
theorem dX2_wholeOf_0 : decode cX2_wholeOf 0 = .ok (.aload_n 0, 1) := by decide +kernel
theorem dX2_wholeOf_1 : decode cX2_wholeOf 1 = .ok (.getfield 9, 3) := by decide +kernel
theorem dX2_wholeOf_4 : decode cX2_wholeOf 4 = .ok (.aload_n 0, 1) := by decide +kernel
theorem dX2_wholeOf_5 : decode cX2_wholeOf 5 = .ok (.getfield 13, 3) := by decide +kernel
theorem dX2_wholeOf_8 : decode cX2_wholeOf 8 = .ok (.invokestatic 134, 3) := by decide +kernel
theorem dX2_wholeOf_11 : decode cX2_wholeOf 11 = .ok (.iconst 0, 1) := by decide +kernel
theorem dX2_wholeOf_12 : decode cX2_wholeOf 12 = .ok (.istore_n 2, 1) := by decide +kernel
theorem dX2_wholeOf_13 : decode cX2_wholeOf 13 = .ok (.iload_n 2, 1) := by decide +kernel
theorem dX2_wholeOf_14 : decode cX2_wholeOf 14 = .ok (.bipush 60, 2) := by decide +kernel
theorem dX2_wholeOf_16 : decode cX2_wholeOf 16 = .ok (.if_icmp .gt 32, 3) := by decide +kernel
theorem dX2_wholeOf_19 : decode cX2_wholeOf 19 = .ok (.aload_n 0, 1) := by decide +kernel
theorem dX2_wholeOf_20 : decode cX2_wholeOf 20 = .ok (.getfield 13, 3) := by decide +kernel
theorem dX2_wholeOf_23 : decode cX2_wholeOf 23 = .ok (.iload_n 1, 1) := by decide +kernel
theorem dX2_wholeOf_24 : decode cX2_wholeOf 24 = .ok (.invokestatic 91, 3) := by decide +kernel
theorem dX2_wholeOf_27 : decode cX2_wholeOf 27 = .ok (.bipush 63, 2) := by decide +kernel
theorem dX2_wholeOf_29 : decode cX2_wholeOf 29 = .ok (.if_icmp .ne 5, 3) := by decide +kernel
theorem dX2_wholeOf_32 : decode cX2_wholeOf 32 = .ok (.iload_n 2, 1) := by decide +kernel
theorem dX2_wholeOf_33 : decode cX2_wholeOf 33 = .ok (.ireturn, 1) := by decide +kernel
theorem dX2_wholeOf_34 : decode cX2_wholeOf 34 = .ok (.aload_n 0, 1) := by decide +kernel
theorem dX2_wholeOf_35 : decode cX2_wholeOf 35 = .ok (.getfield 13, 3) := by decide +kernel
theorem dX2_wholeOf_38 : decode cX2_wholeOf 38 = .ok (.iconst (-1), 1) := by decide +kernel
theorem dX2_wholeOf_39 : decode cX2_wholeOf 39 = .ok (.invokestatic 87, 3) := by decide +kernel
theorem dX2_wholeOf_42 : decode cX2_wholeOf 42 = .ok (.iinc 2 1, 3) := by decide +kernel
theorem dX2_wholeOf_45 : decode cX2_wholeOf 45 = .ok (.goto (-32), 3) := by decide +kernel
theorem dX2_wholeOf_48 : decode cX2_wholeOf 48 = .ok (.bipush (-9), 2) := by decide +kernel
theorem dX2_wholeOf_50 : decode cX2_wholeOf 50 = .ok (.ireturn, 1) := by decide +kernel
set_option maxRecDepth 20000 in
theorem ggX2_firstWhole_X2_wholeOf : GoodIn wsX2_firstWhole wsX2_wholeOf := goodIn_r _ [7, 2, 8, 9, 10, 6, 11, 12, 13, 14, 15, 16, 17, 18, 19, 20, 21, 22, 23, 24, 25, 26, 27, 28, 29, 30, 31, 32, 33, 34, 35, 36, 37, 38, 39, 40, 41, 42, 43, 44, 45, 46, 47, 48, 49, 50, 51, 52, 53, 54, 55, 56, 57, 58, 59, 60, 61, 62, 63, 64, 65, 66] (by decide +kernel) (by decide +kernel)
set_option maxRecDepth 20000 in
theorem gX2_firstWhole_X2_wholeOf : GoodIn wsX2_firstWhole (wsV RX2 165 RX2 yX2_wholeOf wsX2_wholeOf) := goodIn_app (goodIn_of _ (by decide +kernel)) ggX2_firstWhole_X2_wholeOf
theorem dX2_firstWhole_0 : decode cX2_firstWhole 0 = .ok (.bipush (-9), 2) := by decide +kernel
theorem dX2_firstWhole_2 : decode cX2_firstWhole 2 = .ok (.istore_n 1, 1) := by decide +kernel
theorem dX2_firstWhole_3 : decode cX2_firstWhole 3 = .ok (.ldc 164, 2) := by decide +kernel
theorem dX2_firstWhole_5 : decode cX2_firstWhole 5 = .ok (.istore_n 2, 1) := by decide +kernel
theorem dX2_firstWhole_6 : decode cX2_firstWhole 6 = .ok (.iconst 0, 1) := by decide +kernel
theorem dX2_firstWhole_7 : decode cX2_firstWhole 7 = .ok (.istore_n 3, 1) := by decide +kernel
theorem dX2_firstWhole_8 : decode cX2_firstWhole 8 = .ok (.iload_n 3, 1) := by decide +kernel
theorem dX2_firstWhole_9 : decode cX2_firstWhole 9 = .ok (.aload_n 0, 1) := by decide +kernel
theorem dX2_firstWhole_10 : decode cX2_firstWhole 10 = .ok (.getfield 9, 3) := by decide +kernel
theorem dX2_firstWhole_13 : decode cX2_firstWhole 13 = .ok (.iconst 1, 1) := by decide +kernel
theorem dX2_firstWhole_14 : decode cX2_firstWhole 14 = .ok (.iaload, 1) := by decide +kernel
theorem dX2_firstWhole_15 : decode cX2_firstWhole 15 = .ok (.if_icmp .ge 35, 3) := by decide +kernel
theorem dX2_firstWhole_18 : decode cX2_firstWhole 18 = .ok (.aload_n 0, 1) := by decide +kernel
theorem dX2_firstWhole_19 : decode cX2_firstWhole 19 = .ok (.iload_n 3, 1) := by decide +kernel
theorem dX2_firstWhole_20 : decode cX2_firstWhole 20 = .ok (.invokevirtual 165, 3) := by decide +kernel
theorem dX2_firstWhole_23 : decode cX2_firstWhole 23 = .ok (.istore 4, 2) := by decide +kernel
theorem dX2_firstWhole_25 : decode cX2_firstWhole 25 = .ok (.iload 4, 2) := by decide +kernel
theorem dX2_firstWhole_27 : decode cX2_firstWhole 27 = .ok (.ifCond .lt 17, 3) := by decide +kernel
theorem dX2_firstWhole_30 : decode cX2_firstWhole 30 = .ok (.iload 4, 2) := by decide +kernel
theorem dX2_firstWhole_32 : decode cX2_firstWhole 32 = .ok (.iload_n 2, 1) := by decide +kernel
theorem dX2_firstWhole_33 : decode cX2_firstWhole 33 = .ok (.if_icmp .lt 6, 3) := by decide +kernel
theorem dX2_firstWhole_36 : decode cX2_firstWhole 36 = .ok (.goto 8, 3) := by decide +kernel
theorem dX2_firstWhole_39 : decode cX2_firstWhole 39 = .ok (.iload_n 3, 1) := by decide +kernel
theorem dX2_firstWhole_40 : decode cX2_firstWhole 40 = .ok (.istore_n 1, 1) := by decide +kernel
theorem dX2_firstWhole_41 : decode cX2_firstWhole 41 = .ok (.iload 4, 2) := by decide +kernel
theorem dX2_firstWhole_43 : decode cX2_firstWhole 43 = .ok (.istore_n 2, 1) := by decide +kernel
theorem dX2_firstWhole_44 : decode cX2_firstWhole 44 = .ok (.iinc 3 1, 3) := by decide +kernel
theorem dX2_firstWhole_47 : decode cX2_firstWhole 47 = .ok (.goto (-39), 3) := by decide +kernel
theorem dX2_firstWhole_50 : decode cX2_firstWhole 50 = .ok (.iload_n 1, 1) := by decide +kernel
theorem dX2_firstWhole_51 : decode cX2_firstWhole 51 = .ok (.ireturn, 1) := by decide +kernel
set_option maxRecDepth 20000 in
theorem ggX2_whole_X2_firstWhole : GoodIn wsX2_whole wsX2_firstWhole := goodIn_r _ [5, 6, 7, 8, 9, 10, 4, 11, 12, 13, 14, 15, 16, 17, 18, 19, 20, 21, 22, 23, 24, 25, 26, 27, 28, 29, 30, 31, 32, 33, 34, 35, 36, 37, 38, 39, 40, 41, 42, 43, 44, 45, 46, 47, 48, 49, 50, 51, 52, 53, 54, 55, 56, 57, 70, 71, 72, 73, 74, 75, 76, 77, 78, 79, 80, 81, 82] (by decide +kernel) (by decide +kernel)
set_option maxRecDepth 20000 in
theorem gX2_whole_X2_firstWhole : GoodIn wsX2_whole (wsV RX2 168 RX2 yX2_firstWhole wsX2_firstWhole) := goodIn_app (goodIn_of _ (by decide +kernel)) ggX2_whole_X2_firstWhole
set_option maxRecDepth 20000 in
theorem ggX2_whole_X2_isReader : GoodIn wsX2_whole wsX2_isReader := goodIn_r _ [61, 7, 62, 63, 4, 64, 70, 71, 72, 73, 74, 75, 76, 77, 78, 79, 80, 81, 82] (by decide +kernel) (by decide +kernel)
set_option maxRecDepth 20000 in
theorem gX2_whole_X2_isReader : GoodIn wsX2_whole (wsV RX2 147 RX2 yX2_isReader wsX2_isReader) := goodIn_app (goodIn_of _ (by decide +kernel)) ggX2_whole_X2_isReader
set_option maxRecDepth 20000 in
theorem ggX2_whole_X2_wholeOf : GoodIn wsX2_whole wsX2_wholeOf := goodIn_r _ [11, 7, 12, 13, 14, 4, 15, 16, 17, 18, 19, 20, 21, 22, 23, 24, 25, 26, 27, 28, 29, 30, 31, 32, 33, 34, 35, 36, 37, 38, 39, 40, 41, 42, 43, 44, 45, 46, 47, 48, 49, 50, 51, 52, 53, 54, 55, 56, 57, 70, 71, 72, 73, 74, 75, 76, 77, 78, 79, 80, 81, 82] (by decide +kernel) (by decide +kernel)
set_option maxRecDepth 20000 in
theorem gX2_whole_X2_wholeOf : GoodIn wsX2_whole (wsV RX2 165 RX2 yX2_wholeOf wsX2_wholeOf) := goodIn_app (goodIn_of _ (by decide +kernel)) ggX2_whole_X2_wholeOf
set_option maxRecDepth 20000 in
theorem ggX2_whole_X2_no : GoodIn wsX2_whole wsX2_no := goodIn_r _ [68, 69, 70, 71, 72, 73, 74, 75, 76, 77, 78, 79, 80, 81, 82] (by decide +kernel) (by decide +kernel)
set_option maxRecDepth 20000 in
theorem gX2_whole_X2_no : GoodIn wsX2_whole (wsV RX2 36 RX2 yX2_no wsX2_no) := goodIn_app (goodIn_of _ (by decide +kernel)) ggX2_whole_X2_no
theorem dX2_whole_0 : decode cX2_whole 0 = .ok (.iload_n 1, 1) := by decide +kernel
theorem dX2_whole_1 : decode cX2_whole 1 = .ok (.iconst (-1), 1) := by decide +kernel
theorem dX2_whole_2 : decode cX2_whole 2 = .ok (.if_icmp .ne 10, 3) := by decide +kernel
theorem dX2_whole_5 : decode cX2_whole 5 = .ok (.aload_n 0, 1) := by decide +kernel
theorem dX2_whole_6 : decode cX2_whole 6 = .ok (.invokevirtual 168, 3) := by decide +kernel
theorem dX2_whole_9 : decode cX2_whole 9 = .ok (.goto 24, 3) := by decide +kernel
theorem dX2_whole_12 : decode cX2_whole 12 = .ok (.aload_n 0, 1) := by decide +kernel
theorem dX2_whole_13 : decode cX2_whole 13 = .ok (.iload_n 1, 1) := by decide +kernel
theorem dX2_whole_14 : decode cX2_whole 14 = .ok (.invokevirtual 147, 3) := by decide +kernel
theorem dX2_whole_17 : decode cX2_whole 17 = .ok (.ifCond .eq 11, 3) := by decide +kernel
theorem dX2_whole_20 : decode cX2_whole 20 = .ok (.aload_n 0, 1) := by decide +kernel
theorem dX2_whole_21 : decode cX2_whole 21 = .ok (.iload_n 1, 1) := by decide +kernel
theorem dX2_whole_22 : decode cX2_whole 22 = .ok (.invokevirtual 165, 3) := by decide +kernel
theorem dX2_whole_25 : decode cX2_whole 25 = .ok (.goto 8, 3) := by decide +kernel
theorem dX2_whole_28 : decode cX2_whole 28 = .ok (.aload_n 0, 1) := by decide +kernel
theorem dX2_whole_29 : decode cX2_whole 29 = .ok (.iconst (-1), 1) := by decide +kernel
theorem dX2_whole_30 : decode cX2_whole 30 = .ok (.invokevirtual 36, 3) := by decide +kernel
theorem dX2_whole_33 : decode cX2_whole 33 = .ok (.ireturn, 1) := by decide +kernel
set_option maxRecDepth 20000 in
theorem ggX2_next_X2_isIn : GoodIn wsX2_next wsX2_isIn := goodIn_r _ [6] (by decide +kernel) (by decide +kernel)
set_option maxRecDepth 20000 in
theorem gX2_next_X2_isIn : GoodIn wsX2_next (va_wsS RX2 40 yX2_isIn wsX2_isIn) := goodIn_app (goodIn_of _ (by decide +kernel)) ggX2_next_X2_isIn
set_option maxRecDepth 20000 in
theorem ggX2_next_X2_no : GoodIn wsX2_next wsX2_no := goodIn_r _ [10, 11, 54, 55, 56, 57, 58, 59, 60, 61, 62, 63, 64, 65, 66] (by decide +kernel) (by decide +kernel)
set_option maxRecDepth 20000 in
theorem gX2_next_X2_no : GoodIn wsX2_next (wsV RX2 36 RX2 yX2_no wsX2_no) := goodIn_app (goodIn_of _ (by decide +kernel)) ggX2_next_X2_no
set_option maxRecDepth 20000 in
theorem ggX2_next_X2_nextOf : GoodIn wsX2_next wsX2_nextOf := goodIn_r _ [14, 15, 16, 5, 17, 18, 19, 20, 21, 22, 23] (by decide +kernel) (by decide +kernel)
set_option maxRecDepth 20000 in
theorem gX2_next_X2_nextOf : GoodIn wsX2_next (va_wsS RX2 80 yX2_nextOf wsX2_nextOf) := goodIn_app (goodIn_of _ (by decide +kernel)) ggX2_next_X2_nextOf
set_option maxRecDepth 20000 in
theorem ggX2_next_X2_copies : GoodIn wsX2_next wsX2_copies := goodIn_r _ [26] (by decide +kernel) (by decide +kernel)
set_option maxRecDepth 20000 in
theorem gX2_next_X2_copies : GoodIn wsX2_next (va_wsS RX2 134 yX2_copies wsX2_copies) := goodIn_app (goodIn_of _ (by decide +kernel)) ggX2_next_X2_copies
set_option maxRecDepth 20000 in
theorem ggX2_next_X2_night : GoodIn wsX2_next wsX2_night := goodIn_r _ [29, 30, 31, 5, 32, 12, 13, 14, 15, 16, 17, 18, 19, 20, 21, 22, 23, 33, 34, 35, 36, 37, 38, 39, 40, 41, 42, 43, 44, 45, 46, 47, 48, 49, 50, 51, 52, 53] (by decide +kernel) (by decide +kernel)
set_option maxRecDepth 20000 in
theorem gX2_next_X2_night : GoodIn wsX2_next (va_wsS RX2 87 yX2_night wsX2_night) := goodIn_app (goodIn_of _ (by decide +kernel)) ggX2_next_X2_night
theorem dX2_next_0 : decode cX2_next 0 = .ok (.iload_n 1, 1) := by decide +kernel
theorem dX2_next_1 : decode cX2_next 1 = .ok (.iconst 0, 1) := by decide +kernel
theorem dX2_next_2 : decode cX2_next 2 = .ok (.iconst 1, 1) := by decide +kernel
theorem dX2_next_3 : decode cX2_next 3 = .ok (.invokestatic 40, 3) := by decide +kernel
theorem dX2_next_6 : decode cX2_next 6 = .ok (.ifCond .ne 10, 3) := by decide +kernel
theorem dX2_next_9 : decode cX2_next 9 = .ok (.aload_n 0, 1) := by decide +kernel
theorem dX2_next_10 : decode cX2_next 10 = .ok (.bipush (-2), 2) := by decide +kernel
theorem dX2_next_12 : decode cX2_next 12 = .ok (.invokevirtual 36, 3) := by decide +kernel
theorem dX2_next_15 : decode cX2_next 15 = .ok (.ireturn, 1) := by decide +kernel
theorem dX2_next_16 : decode cX2_next 16 = .ok (.iload_n 1, 1) := by decide +kernel
theorem dX2_next_17 : decode cX2_next 17 = .ok (.ifCond .ne 11, 3) := by decide +kernel
theorem dX2_next_20 : decode cX2_next 20 = .ok (.aload_n 0, 1) := by decide +kernel
theorem dX2_next_21 : decode cX2_next 21 = .ok (.getfield 9, 3) := by decide +kernel
theorem dX2_next_24 : decode cX2_next 24 = .ok (.invokestatic 80, 3) := by decide +kernel
theorem dX2_next_27 : decode cX2_next 27 = .ok (.ireturn, 1) := by decide +kernel
theorem dX2_next_28 : decode cX2_next 28 = .ok (.aload_n 0, 1) := by decide +kernel
theorem dX2_next_29 : decode cX2_next 29 = .ok (.getfield 9, 3) := by decide +kernel
theorem dX2_next_32 : decode cX2_next 32 = .ok (.aload_n 0, 1) := by decide +kernel
theorem dX2_next_33 : decode cX2_next 33 = .ok (.getfield 13, 3) := by decide +kernel
theorem dX2_next_36 : decode cX2_next 36 = .ok (.invokestatic 134, 3) := by decide +kernel
theorem dX2_next_39 : decode cX2_next 39 = .ok (.iconst 0, 1) := by decide +kernel
theorem dX2_next_40 : decode cX2_next 40 = .ok (.istore_n 2, 1) := by decide +kernel
theorem dX2_next_41 : decode cX2_next 41 = .ok (.iload_n 2, 1) := by decide +kernel
theorem dX2_next_42 : decode cX2_next 42 = .ok (.bipush 60, 2) := by decide +kernel
theorem dX2_next_44 : decode cX2_next 44 = .ok (.if_icmp .gt 29, 3) := by decide +kernel
theorem dX2_next_47 : decode cX2_next 47 = .ok (.aload_n 0, 1) := by decide +kernel
theorem dX2_next_48 : decode cX2_next 48 = .ok (.getfield 13, 3) := by decide +kernel
theorem dX2_next_51 : decode cX2_next 51 = .ok (.invokestatic 80, 3) := by decide +kernel
theorem dX2_next_54 : decode cX2_next 54 = .ok (.ifCond .ge 5, 3) := by decide +kernel
theorem dX2_next_57 : decode cX2_next 57 = .ok (.iload_n 2, 1) := by decide +kernel
theorem dX2_next_58 : decode cX2_next 58 = .ok (.ireturn, 1) := by decide +kernel
theorem dX2_next_59 : decode cX2_next 59 = .ok (.aload_n 0, 1) := by decide +kernel
theorem dX2_next_60 : decode cX2_next 60 = .ok (.getfield 13, 3) := by decide +kernel
theorem dX2_next_63 : decode cX2_next 63 = .ok (.iconst (-1), 1) := by decide +kernel
theorem dX2_next_64 : decode cX2_next 64 = .ok (.invokestatic 87, 3) := by decide +kernel
theorem dX2_next_67 : decode cX2_next 67 = .ok (.iinc 2 1, 3) := by decide +kernel
theorem dX2_next_70 : decode cX2_next 70 = .ok (.goto (-29), 3) := by decide +kernel
theorem dX2_next_73 : decode cX2_next 73 = .ok (.bipush (-9), 2) := by decide +kernel
theorem dX2_next_75 : decode cX2_next 75 = .ok (.ireturn, 1) := by decide +kernel
set_option maxRecDepth 20000 in
theorem ggX2_isWholeBy_X2_copies : GoodIn wsX2_isWholeBy wsX2_copies := goodIn_r _ [6] (by decide +kernel) (by decide +kernel)
set_option maxRecDepth 20000 in
theorem gX2_isWholeBy_X2_copies : GoodIn wsX2_isWholeBy (va_wsS RX2 134 yX2_copies wsX2_copies) := goodIn_app (goodIn_of _ (by decide +kernel)) ggX2_isWholeBy_X2_copies
set_option maxRecDepth 20000 in
theorem ggX2_isWholeBy_X2_has : GoodIn wsX2_isWholeBy wsX2_has := goodIn_r _ [9] (by decide +kernel) (by decide +kernel)
set_option maxRecDepth 20000 in
theorem gX2_isWholeBy_X2_has : GoodIn wsX2_isWholeBy (va_wsS RX2 65 yX2_has wsX2_has) := goodIn_app (goodIn_of _ (by decide +kernel)) ggX2_isWholeBy_X2_has
set_option maxRecDepth 20000 in
theorem ggX2_isWholeBy_X2_bursts : GoodIn wsX2_isWholeBy wsX2_bursts := goodIn_r _ [12, 7, 8, 5, 9, 13, 14, 15, 16, 17, 18, 19, 20, 21, 22, 23, 24, 25, 26, 27, 28, 29, 30] (by decide +kernel) (by decide +kernel)
set_option maxRecDepth 20000 in
theorem gX2_isWholeBy_X2_bursts : GoodIn wsX2_isWholeBy (va_wsS RX2 72 yX2_bursts wsX2_bursts) := goodIn_app (goodIn_of _ (by decide +kernel)) ggX2_isWholeBy_X2_bursts
set_option maxRecDepth 20000 in
theorem ggX2_isWholeBy_X2_wordsOf : GoodIn wsX2_isWholeBy wsX2_wordsOf := goodIn_r _ [33, 16, 17, 5, 18] (by decide +kernel) (by decide +kernel)
set_option maxRecDepth 20000 in
theorem gX2_isWholeBy_X2_wordsOf : GoodIn wsX2_isWholeBy (va_wsS RX2 91 yX2_wordsOf wsX2_wordsOf) := goodIn_app (goodIn_of _ (by decide +kernel)) ggX2_isWholeBy_X2_wordsOf
theorem dX2_isWholeBy_0 : decode cX2_isWholeBy 0 = .ok (.aload_n 0, 1) := by decide +kernel
theorem dX2_isWholeBy_1 : decode cX2_isWholeBy 1 = .ok (.getfield 9, 3) := by decide +kernel
theorem dX2_isWholeBy_4 : decode cX2_isWholeBy 4 = .ok (.aload_n 0, 1) := by decide +kernel
theorem dX2_isWholeBy_5 : decode cX2_isWholeBy 5 = .ok (.getfield 13, 3) := by decide +kernel
theorem dX2_isWholeBy_8 : decode cX2_isWholeBy 8 = .ok (.invokestatic 134, 3) := by decide +kernel
theorem dX2_isWholeBy_11 : decode cX2_isWholeBy 11 = .ok (.iconst 0, 1) := by decide +kernel
theorem dX2_isWholeBy_12 : decode cX2_isWholeBy 12 = .ok (.istore_n 3, 1) := by decide +kernel
theorem dX2_isWholeBy_13 : decode cX2_isWholeBy 13 = .ok (.iload_n 3, 1) := by decide +kernel
theorem dX2_isWholeBy_14 : decode cX2_isWholeBy 14 = .ok (.aload_n 0, 1) := by decide +kernel
theorem dX2_isWholeBy_15 : decode cX2_isWholeBy 15 = .ok (.getfield 9, 3) := by decide +kernel
theorem dX2_isWholeBy_18 : decode cX2_isWholeBy 18 = .ok (.iconst 0, 1) := by decide +kernel
theorem dX2_isWholeBy_19 : decode cX2_isWholeBy 19 = .ok (.iaload, 1) := by decide +kernel
theorem dX2_isWholeBy_20 : decode cX2_isWholeBy 20 = .ok (.if_icmp .ge 26, 3) := by decide +kernel
theorem dX2_isWholeBy_23 : decode cX2_isWholeBy 23 = .ok (.iload_n 1, 1) := by decide +kernel
theorem dX2_isWholeBy_24 : decode cX2_isWholeBy 24 = .ok (.iload_n 3, 1) := by decide +kernel
theorem dX2_isWholeBy_25 : decode cX2_isWholeBy 25 = .ok (.invokestatic 65, 3) := by decide +kernel
theorem dX2_isWholeBy_28 : decode cX2_isWholeBy 28 = .ok (.ifCond .eq 12, 3) := by decide +kernel
theorem dX2_isWholeBy_31 : decode cX2_isWholeBy 31 = .ok (.aload_n 0, 1) := by decide +kernel
theorem dX2_isWholeBy_32 : decode cX2_isWholeBy 32 = .ok (.getfield 13, 3) := by decide +kernel
theorem dX2_isWholeBy_35 : decode cX2_isWholeBy 35 = .ok (.iload_n 3, 1) := by decide +kernel
theorem dX2_isWholeBy_36 : decode cX2_isWholeBy 36 = .ok (.iconst (-1), 1) := by decide +kernel
theorem dX2_isWholeBy_37 : decode cX2_isWholeBy 37 = .ok (.invokestatic 72, 3) := by decide +kernel
theorem dX2_isWholeBy_40 : decode cX2_isWholeBy 40 = .ok (.iinc 3 1, 3) := by decide +kernel
theorem dX2_isWholeBy_43 : decode cX2_isWholeBy 43 = .ok (.goto (-30), 3) := by decide +kernel
theorem dX2_isWholeBy_46 : decode cX2_isWholeBy 46 = .ok (.aload_n 0, 1) := by decide +kernel
theorem dX2_isWholeBy_47 : decode cX2_isWholeBy 47 = .ok (.getfield 13, 3) := by decide +kernel
theorem dX2_isWholeBy_50 : decode cX2_isWholeBy 50 = .ok (.iload_n 2, 1) := by decide +kernel
theorem dX2_isWholeBy_51 : decode cX2_isWholeBy 51 = .ok (.invokestatic 91, 3) := by decide +kernel
theorem dX2_isWholeBy_54 : decode cX2_isWholeBy 54 = .ok (.bipush 63, 2) := by decide +kernel
theorem dX2_isWholeBy_56 : decode cX2_isWholeBy 56 = .ok (.if_icmp .ne 7, 3) := by decide +kernel
theorem dX2_isWholeBy_59 : decode cX2_isWholeBy 59 = .ok (.iconst 1, 1) := by decide +kernel
theorem dX2_isWholeBy_60 : decode cX2_isWholeBy 60 = .ok (.goto 4, 3) := by decide +kernel
theorem dX2_isWholeBy_63 : decode cX2_isWholeBy 63 = .ok (.iconst 0, 1) := by decide +kernel
theorem dX2_isWholeBy_64 : decode cX2_isWholeBy 64 = .ok (.ireturn, 1) := by decide +kernel
set_option maxRecDepth 20000 in
theorem ggX2_costOf_X2_has : GoodIn wsX2_costOf wsX2_has := goodIn_r _ [5] (by decide +kernel) (by decide +kernel)
set_option maxRecDepth 20000 in
theorem gX2_costOf_X2_has : GoodIn wsX2_costOf (va_wsS RX2 65 yX2_has wsX2_has) := goodIn_app (goodIn_of _ (by decide +kernel)) ggX2_costOf_X2_has
set_option maxRecDepth 20000 in
theorem ggX2_costOf_X2_ofR : GoodIn wsX2_costOf wsX2_ofR := goodIn_r _ [8] (by decide +kernel) (by decide +kernel)
set_option maxRecDepth 20000 in
theorem gX2_costOf_X2_ofR : GoodIn wsX2_costOf (va_wsS RX2 44 yX2_ofR wsX2_ofR) := goodIn_app (goodIn_of _ (by decide +kernel)) ggX2_costOf_X2_ofR
set_option maxRecDepth 20000 in
theorem ggX2_costOf_X2_costBy : GoodIn wsX2_costOf wsX2_costBy := goodIn_r _ [11] (by decide +kernel) (by decide +kernel)
set_option maxRecDepth 20000 in
theorem gX2_costOf_X2_costBy : GoodIn wsX2_costOf (va_wsS RX2 69 yX2_costBy wsX2_costBy) := goodIn_app (goodIn_of _ (by decide +kernel)) ggX2_costOf_X2_costBy
theorem dX2_costOf_0 : decode cX2_costOf 0 = .ok (.iconst 0, 1) := by decide +kernel
theorem dX2_costOf_1 : decode cX2_costOf 1 = .ok (.istore_n 2, 1) := by decide +kernel
theorem dX2_costOf_2 : decode cX2_costOf 2 = .ok (.iconst 0, 1) := by decide +kernel
theorem dX2_costOf_3 : decode cX2_costOf 3 = .ok (.istore_n 3, 1) := by decide +kernel
theorem dX2_costOf_4 : decode cX2_costOf 4 = .ok (.iload_n 3, 1) := by decide +kernel
theorem dX2_costOf_5 : decode cX2_costOf 5 = .ok (.aload_n 0, 1) := by decide +kernel
theorem dX2_costOf_6 : decode cX2_costOf 6 = .ok (.getfield 9, 3) := by decide +kernel
theorem dX2_costOf_9 : decode cX2_costOf 9 = .ok (.iconst 0, 1) := by decide +kernel
theorem dX2_costOf_10 : decode cX2_costOf 10 = .ok (.iaload, 1) := by decide +kernel
theorem dX2_costOf_11 : decode cX2_costOf 11 = .ok (.if_icmp .ge 37, 3) := by decide +kernel
theorem dX2_costOf_14 : decode cX2_costOf 14 = .ok (.iload_n 2, 1) := by decide +kernel
theorem dX2_costOf_15 : decode cX2_costOf 15 = .ok (.iload_n 1, 1) := by decide +kernel
theorem dX2_costOf_16 : decode cX2_costOf 16 = .ok (.iload_n 3, 1) := by decide +kernel
theorem dX2_costOf_17 : decode cX2_costOf 17 = .ok (.invokestatic 65, 3) := by decide +kernel
theorem dX2_costOf_20 : decode cX2_costOf 20 = .ok (.ifCond .eq 19, 3) := by decide +kernel
theorem dX2_costOf_23 : decode cX2_costOf 23 = .ok (.aload_n 0, 1) := by decide +kernel
theorem dX2_costOf_24 : decode cX2_costOf 24 = .ok (.getfield 9, 3) := by decide +kernel
theorem dX2_costOf_27 : decode cX2_costOf 27 = .ok (.iload_n 3, 1) := by decide +kernel
theorem dX2_costOf_28 : decode cX2_costOf 28 = .ok (.iconst 0, 1) := by decide +kernel
theorem dX2_costOf_29 : decode cX2_costOf 29 = .ok (.invokestatic 44, 3) := by decide +kernel
theorem dX2_costOf_32 : decode cX2_costOf 32 = .ok (.iaload, 1) := by decide +kernel
theorem dX2_costOf_33 : decode cX2_costOf 33 = .ok (.invokestatic 69, 3) := by decide +kernel
theorem dX2_costOf_36 : decode cX2_costOf 36 = .ok (.goto 4, 3) := by decide +kernel
theorem dX2_costOf_39 : decode cX2_costOf 39 = .ok (.iconst 0, 1) := by decide +kernel
theorem dX2_costOf_40 : decode cX2_costOf 40 = .ok (.iadd, 1) := by decide +kernel
theorem dX2_costOf_41 : decode cX2_costOf 41 = .ok (.istore_n 2, 1) := by decide +kernel
theorem dX2_costOf_42 : decode cX2_costOf 42 = .ok (.iinc 3 1, 3) := by decide +kernel
theorem dX2_costOf_45 : decode cX2_costOf 45 = .ok (.goto (-41), 3) := by decide +kernel
theorem dX2_costOf_48 : decode cX2_costOf 48 = .ok (.iload_n 2, 1) := by decide +kernel
theorem dX2_costOf_49 : decode cX2_costOf 49 = .ok (.ireturn, 1) := by decide +kernel
set_option maxRecDepth 20000 in
theorem ggX2_boxed_X2_sentIn : GoodIn wsX2_boxed wsX2_sentIn := goodIn_r _ [5, 6, 7, 4, 8] (by decide +kernel) (by decide +kernel)
set_option maxRecDepth 20000 in
theorem gX2_boxed_X2_sentIn : GoodIn wsX2_boxed (va_wsS RX2 150 yX2_sentIn wsX2_sentIn) := goodIn_app (goodIn_of _ (by decide +kernel)) ggX2_boxed_X2_sentIn
theorem dX2_boxed_0 : decode cX2_boxed 0 = .ok (.iconst 1, 1) := by decide +kernel
theorem dX2_boxed_1 : decode cX2_boxed 1 = .ok (.aload_n 0, 1) := by decide +kernel
theorem dX2_boxed_2 : decode cX2_boxed 2 = .ok (.getfield 9, 3) := by decide +kernel
theorem dX2_boxed_5 : decode cX2_boxed 5 = .ok (.iconst 0, 1) := by decide +kernel
theorem dX2_boxed_6 : decode cX2_boxed 6 = .ok (.iaload, 1) := by decide +kernel
theorem dX2_boxed_7 : decode cX2_boxed 7 = .ok (.ishl, 1) := by decide +kernel
theorem dX2_boxed_8 : decode cX2_boxed 8 = .ok (.iconst 1, 1) := by decide +kernel
theorem dX2_boxed_9 : decode cX2_boxed 9 = .ok (.isub, 1) := by decide +kernel
theorem dX2_boxed_10 : decode cX2_boxed 10 = .ok (.aload_n 0, 1) := by decide +kernel
theorem dX2_boxed_11 : decode cX2_boxed 11 = .ok (.getfield 9, 3) := by decide +kernel
theorem dX2_boxed_14 : decode cX2_boxed 14 = .ok (.invokestatic 150, 3) := by decide +kernel
theorem dX2_boxed_17 : decode cX2_boxed 17 = .ok (.iconst (-1), 1) := by decide +kernel
theorem dX2_boxed_18 : decode cX2_boxed 18 = .ok (.ixor, 1) := by decide +kernel
theorem dX2_boxed_19 : decode cX2_boxed 19 = .ok (.iand, 1) := by decide +kernel
theorem dX2_boxed_20 : decode cX2_boxed 20 = .ok (.ireturn, 1) := by decide +kernel
set_option maxRecDepth 20000 in
theorem ggX2_fewest_X2_isReader : GoodIn wsX2_fewest wsX2_isReader := goodIn_r _ [7, 2, 8, 9, 6, 10, 68, 69, 70, 71, 72, 73, 74, 75, 76, 77, 78, 79, 80] (by decide +kernel) (by decide +kernel)
set_option maxRecDepth 20000 in
theorem gX2_fewest_X2_isReader : GoodIn wsX2_fewest (wsV RX2 147 RX2 yX2_isReader wsX2_isReader) := goodIn_app (goodIn_of _ (by decide +kernel)) ggX2_fewest_X2_isReader
set_option maxRecDepth 20000 in
theorem ggX2_fewest_X2_no : GoodIn wsX2_fewest wsX2_no := goodIn_r _ [14, 15, 68, 69, 70, 71, 72, 73, 74, 75, 76, 77, 78, 79, 80] (by decide +kernel) (by decide +kernel)
set_option maxRecDepth 20000 in
theorem gX2_fewest_X2_no : GoodIn wsX2_fewest (wsV RX2 36 RX2 yX2_no wsX2_no) := goodIn_app (goodIn_of _ (by decide +kernel)) ggX2_fewest_X2_no
set_option maxRecDepth 20000 in
theorem ggX2_fewest_X2_isIn : GoodIn wsX2_fewest wsX2_isIn := goodIn_r _ [10] (by decide +kernel) (by decide +kernel)
set_option maxRecDepth 20000 in
theorem gX2_fewest_X2_isIn : GoodIn wsX2_fewest (va_wsS RX2 40 yX2_isIn wsX2_isIn) := goodIn_app (goodIn_of _ (by decide +kernel)) ggX2_fewest_X2_isIn
set_option maxRecDepth 20000 in
theorem ggX2_fewest_X2_boxed : GoodIn wsX2_fewest wsX2_boxed := goodIn_r _ [19, 2, 20, 21, 6, 22, 23, 24, 25, 68, 69, 70, 71, 72, 73, 74, 75, 76, 77, 78, 79, 80] (by decide +kernel) (by decide +kernel)
set_option maxRecDepth 20000 in
theorem gX2_fewest_X2_boxed : GoodIn wsX2_fewest (wsV RX2 171 RX2 yX2_boxed wsX2_boxed) := goodIn_app (goodIn_of _ (by decide +kernel)) ggX2_fewest_X2_boxed
set_option maxRecDepth 20000 in
theorem ggX2_fewest_X2_isWholeBy : GoodIn wsX2_fewest wsX2_isWholeBy := goodIn_r _ [29, 2, 30, 31, 32, 6, 33, 34, 35, 36, 37, 38, 39, 40, 41, 42, 43, 44, 45, 46, 47, 48, 23, 24, 25, 49, 50, 51, 52, 53, 54, 55, 56, 57, 68, 69, 70, 71, 72, 73, 74, 75, 76, 77, 78, 79, 80] (by decide +kernel) (by decide +kernel)
set_option maxRecDepth 20000 in
theorem gX2_fewest_X2_isWholeBy : GoodIn wsX2_fewest (wsV RX2 174 RX2 yX2_isWholeBy wsX2_isWholeBy) := goodIn_app (goodIn_of _ (by decide +kernel)) ggX2_fewest_X2_isWholeBy
set_option maxRecDepth 20000 in
theorem ggX2_fewest_X2_bits : GoodIn wsX2_fewest wsX2_bits := goodIn_r _ [60] (by decide +kernel) (by decide +kernel)
set_option maxRecDepth 20000 in
theorem gX2_fewest_X2_bits : GoodIn wsX2_fewest (va_wsS RX2 94 yX2_bits wsX2_bits) := goodIn_app (goodIn_of _ (by decide +kernel)) ggX2_fewest_X2_bits
set_option maxRecDepth 20000 in
theorem ggX2_fewest_X2_costOf : GoodIn wsX2_fewest wsX2_costOf := goodIn_r _ [64, 2, 34, 35, 6, 36, 23, 24, 25, 65, 66, 67, 68, 69, 70, 71, 72, 73, 74, 75, 76, 77, 78, 79, 80] (by decide +kernel) (by decide +kernel)
set_option maxRecDepth 20000 in
theorem gX2_fewest_X2_costOf : GoodIn wsX2_fewest (wsV RX2 177 RX2 yX2_costOf wsX2_costOf) := goodIn_app (goodIn_of _ (by decide +kernel)) ggX2_fewest_X2_costOf
theorem dX2_fewest_0 : decode cX2_fewest 0 = .ok (.aload_n 0, 1) := by decide +kernel
theorem dX2_fewest_1 : decode cX2_fewest 1 = .ok (.iload_n 1, 1) := by decide +kernel
theorem dX2_fewest_2 : decode cX2_fewest 2 = .ok (.invokevirtual 147, 3) := by decide +kernel
theorem dX2_fewest_5 : decode cX2_fewest 5 = .ok (.ifCond .ne 9, 3) := by decide +kernel
theorem dX2_fewest_8 : decode cX2_fewest 8 = .ok (.aload_n 0, 1) := by decide +kernel
theorem dX2_fewest_9 : decode cX2_fewest 9 = .ok (.iconst (-1), 1) := by decide +kernel
theorem dX2_fewest_10 : decode cX2_fewest 10 = .ok (.invokevirtual 36, 3) := by decide +kernel
theorem dX2_fewest_13 : decode cX2_fewest 13 = .ok (.ireturn, 1) := by decide +kernel
theorem dX2_fewest_14 : decode cX2_fewest 14 = .ok (.iload_n 2, 1) := by decide +kernel
theorem dX2_fewest_15 : decode cX2_fewest 15 = .ok (.iconst 0, 1) := by decide +kernel
theorem dX2_fewest_16 : decode cX2_fewest 16 = .ok (.iconst 1, 1) := by decide +kernel
theorem dX2_fewest_17 : decode cX2_fewest 17 = .ok (.invokestatic 40, 3) := by decide +kernel
theorem dX2_fewest_20 : decode cX2_fewest 20 = .ok (.ifCond .ne 10, 3) := by decide +kernel
theorem dX2_fewest_23 : decode cX2_fewest 23 = .ok (.aload_n 0, 1) := by decide +kernel
theorem dX2_fewest_24 : decode cX2_fewest 24 = .ok (.bipush (-2), 2) := by decide +kernel
theorem dX2_fewest_26 : decode cX2_fewest 26 = .ok (.invokevirtual 36, 3) := by decide +kernel
theorem dX2_fewest_29 : decode cX2_fewest 29 = .ok (.ireturn, 1) := by decide +kernel
theorem dX2_fewest_30 : decode cX2_fewest 30 = .ok (.bipush (-9), 2) := by decide +kernel
theorem dX2_fewest_32 : decode cX2_fewest 32 = .ok (.istore_n 3, 1) := by decide +kernel
theorem dX2_fewest_33 : decode cX2_fewest 33 = .ok (.ldc 164, 2) := by decide +kernel
theorem dX2_fewest_35 : decode cX2_fewest 35 = .ok (.istore 4, 2) := by decide +kernel
theorem dX2_fewest_37 : decode cX2_fewest 37 = .ok (.iconst 0, 1) := by decide +kernel
theorem dX2_fewest_38 : decode cX2_fewest 38 = .ok (.istore 5, 2) := by decide +kernel
theorem dX2_fewest_40 : decode cX2_fewest 40 = .ok (.iload 5, 2) := by decide +kernel
theorem dX2_fewest_42 : decode cX2_fewest 42 = .ok (.iconst 1, 1) := by decide +kernel
theorem dX2_fewest_43 : decode cX2_fewest 43 = .ok (.aload_n 0, 1) := by decide +kernel
theorem dX2_fewest_44 : decode cX2_fewest 44 = .ok (.getfield 9, 3) := by decide +kernel
theorem dX2_fewest_47 : decode cX2_fewest 47 = .ok (.iconst 0, 1) := by decide +kernel
theorem dX2_fewest_48 : decode cX2_fewest 48 = .ok (.iaload, 1) := by decide +kernel
theorem dX2_fewest_49 : decode cX2_fewest 49 = .ok (.ishl, 1) := by decide +kernel
theorem dX2_fewest_50 : decode cX2_fewest 50 = .ok (.if_icmp .ge 77, 3) := by decide +kernel
theorem dX2_fewest_53 : decode cX2_fewest 53 = .ok (.iload 5, 2) := by decide +kernel
theorem dX2_fewest_55 : decode cX2_fewest 55 = .ok (.aload_n 0, 1) := by decide +kernel
theorem dX2_fewest_56 : decode cX2_fewest 56 = .ok (.invokevirtual 171, 3) := by decide +kernel
theorem dX2_fewest_59 : decode cX2_fewest 59 = .ok (.iconst (-1), 1) := by decide +kernel
theorem dX2_fewest_60 : decode cX2_fewest 60 = .ok (.ixor, 1) := by decide +kernel
theorem dX2_fewest_61 : decode cX2_fewest 61 = .ok (.iand, 1) := by decide +kernel
theorem dX2_fewest_62 : decode cX2_fewest 62 = .ok (.ifCond .ne 59, 3) := by decide +kernel
theorem dX2_fewest_65 : decode cX2_fewest 65 = .ok (.aload_n 0, 1) := by decide +kernel
theorem dX2_fewest_66 : decode cX2_fewest 66 = .ok (.iload 5, 2) := by decide +kernel
theorem dX2_fewest_68 : decode cX2_fewest 68 = .ok (.iload_n 1, 1) := by decide +kernel
theorem dX2_fewest_69 : decode cX2_fewest 69 = .ok (.invokevirtual 174, 3) := by decide +kernel
theorem dX2_fewest_72 : decode cX2_fewest 72 = .ok (.ifCond .ne 6, 3) := by decide +kernel
theorem dX2_fewest_75 : decode cX2_fewest 75 = .ok (.goto 46, 3) := by decide +kernel
theorem dX2_fewest_78 : decode cX2_fewest 78 = .ok (.iload_n 3, 1) := by decide +kernel
theorem dX2_fewest_79 : decode cX2_fewest 79 = .ok (.ifCond .lt 15, 3) := by decide +kernel
theorem dX2_fewest_82 : decode cX2_fewest 82 = .ok (.iload 5, 2) := by decide +kernel
theorem dX2_fewest_84 : decode cX2_fewest 84 = .ok (.invokestatic 94, 3) := by decide +kernel
theorem dX2_fewest_87 : decode cX2_fewest 87 = .ok (.iload_n 3, 1) := by decide +kernel
theorem dX2_fewest_88 : decode cX2_fewest 88 = .ok (.invokestatic 94, 3) := by decide +kernel
theorem dX2_fewest_91 : decode cX2_fewest 91 = .ok (.if_icmp .ge 6, 3) := by decide +kernel
theorem dX2_fewest_94 : decode cX2_fewest 94 = .ok (.iload 5, 2) := by decide +kernel
theorem dX2_fewest_96 : decode cX2_fewest 96 = .ok (.istore_n 3, 1) := by decide +kernel
theorem dX2_fewest_97 : decode cX2_fewest 97 = .ok (.aload_n 0, 1) := by decide +kernel
theorem dX2_fewest_98 : decode cX2_fewest 98 = .ok (.iload 5, 2) := by decide +kernel
theorem dX2_fewest_100 : decode cX2_fewest 100 = .ok (.invokevirtual 177, 3) := by decide +kernel
theorem dX2_fewest_103 : decode cX2_fewest 103 = .ok (.iload 4, 2) := by decide +kernel
theorem dX2_fewest_105 : decode cX2_fewest 105 = .ok (.if_icmp .ge 12, 3) := by decide +kernel
theorem dX2_fewest_108 : decode cX2_fewest 108 = .ok (.aload_n 0, 1) := by decide +kernel
theorem dX2_fewest_109 : decode cX2_fewest 109 = .ok (.iload 5, 2) := by decide +kernel
theorem dX2_fewest_111 : decode cX2_fewest 111 = .ok (.invokevirtual 177, 3) := by decide +kernel
theorem dX2_fewest_114 : decode cX2_fewest 114 = .ok (.goto 5, 3) := by decide +kernel
theorem dX2_fewest_117 : decode cX2_fewest 117 = .ok (.iload 4, 2) := by decide +kernel
theorem dX2_fewest_119 : decode cX2_fewest 119 = .ok (.istore 4, 2) := by decide +kernel
theorem dX2_fewest_121 : decode cX2_fewest 121 = .ok (.iinc 5 1, 3) := by decide +kernel
theorem dX2_fewest_124 : decode cX2_fewest 124 = .ok (.goto (-84), 3) := by decide +kernel
theorem dX2_fewest_127 : decode cX2_fewest 127 = .ok (.iload_n 3, 1) := by decide +kernel
theorem dX2_fewest_128 : decode cX2_fewest 128 = .ok (.ifCond .lt 7, 3) := by decide +kernel
theorem dX2_fewest_131 : decode cX2_fewest 131 = .ok (.iload_n 2, 1) := by decide +kernel
theorem dX2_fewest_132 : decode cX2_fewest 132 = .ok (.ifCond .ne 7, 3) := by decide +kernel
theorem dX2_fewest_135 : decode cX2_fewest 135 = .ok (.iload_n 3, 1) := by decide +kernel
theorem dX2_fewest_136 : decode cX2_fewest 136 = .ok (.goto 5, 3) := by decide +kernel
theorem dX2_fewest_139 : decode cX2_fewest 139 = .ok (.iload 4, 2) := by decide +kernel
theorem dX2_fewest_141 : decode cX2_fewest 141 = .ok (.ireturn, 1) := by decide +kernel
set_option maxRecDepth 20000 in
theorem ggX2_windBest_X2_wrongBy : GoodIn wsX2_windBest wsX2_wrongBy := goodIn_r _ [6] (by decide +kernel) (by decide +kernel)
set_option maxRecDepth 20000 in
theorem gX2_windBest_X2_wrongBy : GoodIn wsX2_windBest (va_wsS RX2 153 yX2_wrongBy wsX2_wrongBy) := goodIn_app (goodIn_of _ (by decide +kernel)) ggX2_windBest_X2_wrongBy
set_option maxRecDepth 20000 in
theorem ggX2_windBest_X2_isIn : GoodIn wsX2_windBest wsX2_isIn := goodIn_r _ [9] (by decide +kernel) (by decide +kernel)
set_option maxRecDepth 20000 in
theorem gX2_windBest_X2_isIn : GoodIn wsX2_windBest (va_wsS RX2 40 yX2_isIn wsX2_isIn) := goodIn_app (goodIn_of _ (by decide +kernel)) ggX2_windBest_X2_isIn
set_option maxRecDepth 20000 in
theorem ggX2_windBest_X2_no : GoodIn wsX2_windBest wsX2_no := goodIn_r _ [13, 14, 66, 67, 68, 69, 70, 71, 72, 73, 74, 75, 76, 77, 78] (by decide +kernel) (by decide +kernel)
set_option maxRecDepth 20000 in
theorem gX2_windBest_X2_no : GoodIn wsX2_windBest (wsV RX2 36 RX2 yX2_no wsX2_no) := goodIn_app (goodIn_of _ (by decide +kernel)) ggX2_windBest_X2_no
set_option maxRecDepth 20000 in
theorem ggX2_windBest_X2_copies : GoodIn wsX2_windBest wsX2_copies := goodIn_r _ [17] (by decide +kernel) (by decide +kernel)
set_option maxRecDepth 20000 in
theorem gX2_windBest_X2_copies : GoodIn wsX2_windBest (va_wsS RX2 134 yX2_copies wsX2_copies) := goodIn_app (goodIn_of _ (by decide +kernel)) ggX2_windBest_X2_copies
set_option maxRecDepth 20000 in
theorem ggX2_windBest_X2_nightsOn : GoodIn wsX2_windBest wsX2_nightsOn := goodIn_r _ [20, 21, 22, 5, 23, 24, 25, 26, 27, 28, 29, 30, 31, 32, 33, 34, 35, 36, 37, 38, 39, 40, 41, 42, 43, 44, 45, 46, 47, 48, 49, 50, 51, 52, 53, 54, 55, 56, 57, 58, 59] (by decide +kernel) (by decide +kernel)
set_option maxRecDepth 20000 in
theorem gX2_windBest_X2_nightsOn : GoodIn wsX2_windBest (va_wsS RX2 128 yX2_nightsOn wsX2_nightsOn) := goodIn_app (goodIn_of _ (by decide +kernel)) ggX2_windBest_X2_nightsOn
set_option maxRecDepth 20000 in
theorem ggX2_windBest_X2_wholeOnes : GoodIn wsX2_windBest wsX2_wholeOnes := goodIn_r _ [62, 63, 64, 5, 65, 24, 25, 26] (by decide +kernel) (by decide +kernel)
set_option maxRecDepth 20000 in
theorem gX2_windBest_X2_wholeOnes : GoodIn wsX2_windBest (va_wsS RX2 180 yX2_wholeOnes wsX2_wholeOnes) := goodIn_app (goodIn_of _ (by decide +kernel)) ggX2_windBest_X2_wholeOnes
theorem dX2_windBest_0 : decode cX2_windBest 0 = .ok (.iload_n 1, 1) := by decide +kernel
theorem dX2_windBest_1 : decode cX2_windBest 1 = .ok (.iconst 0, 1) := by decide +kernel
theorem dX2_windBest_2 : decode cX2_windBest 2 = .ok (.bipush 30, 2) := by decide +kernel
theorem dX2_windBest_4 : decode cX2_windBest 4 = .ok (.invokestatic 153, 3) := by decide +kernel
theorem dX2_windBest_7 : decode cX2_windBest 7 = .ok (.istore_n 3, 1) := by decide +kernel
theorem dX2_windBest_8 : decode cX2_windBest 8 = .ok (.iload_n 3, 1) := by decide +kernel
theorem dX2_windBest_9 : decode cX2_windBest 9 = .ok (.ifCond .ne 15, 3) := by decide +kernel
theorem dX2_windBest_12 : decode cX2_windBest 12 = .ok (.iload_n 2, 1) := by decide +kernel
theorem dX2_windBest_13 : decode cX2_windBest 13 = .ok (.iconst 0, 1) := by decide +kernel
theorem dX2_windBest_14 : decode cX2_windBest 14 = .ok (.iconst 1, 1) := by decide +kernel
theorem dX2_windBest_15 : decode cX2_windBest 15 = .ok (.invokestatic 40, 3) := by decide +kernel
theorem dX2_windBest_18 : decode cX2_windBest 18 = .ok (.ifCond .ne 6, 3) := by decide +kernel
theorem dX2_windBest_21 : decode cX2_windBest 21 = .ok (.bipush (-2), 2) := by decide +kernel
theorem dX2_windBest_23 : decode cX2_windBest 23 = .ok (.istore_n 3, 1) := by decide +kernel
theorem dX2_windBest_24 : decode cX2_windBest 24 = .ok (.iload_n 3, 1) := by decide +kernel
theorem dX2_windBest_25 : decode cX2_windBest 25 = .ok (.ifCond .eq 9, 3) := by decide +kernel
theorem dX2_windBest_28 : decode cX2_windBest 28 = .ok (.aload_n 0, 1) := by decide +kernel
theorem dX2_windBest_29 : decode cX2_windBest 29 = .ok (.iload_n 3, 1) := by decide +kernel
theorem dX2_windBest_30 : decode cX2_windBest 30 = .ok (.invokevirtual 36, 3) := by decide +kernel
theorem dX2_windBest_33 : decode cX2_windBest 33 = .ok (.ireturn, 1) := by decide +kernel
theorem dX2_windBest_34 : decode cX2_windBest 34 = .ok (.iconst 0, 1) := by decide +kernel
theorem dX2_windBest_35 : decode cX2_windBest 35 = .ok (.istore 4, 2) := by decide +kernel
theorem dX2_windBest_37 : decode cX2_windBest 37 = .ok (.iconst (-1), 1) := by decide +kernel
theorem dX2_windBest_38 : decode cX2_windBest 38 = .ok (.istore 5, 2) := by decide +kernel
theorem dX2_windBest_40 : decode cX2_windBest 40 = .ok (.iconst 0, 1) := by decide +kernel
theorem dX2_windBest_41 : decode cX2_windBest 41 = .ok (.istore 6, 2) := by decide +kernel
theorem dX2_windBest_43 : decode cX2_windBest 43 = .ok (.iload 6, 2) := by decide +kernel
theorem dX2_windBest_45 : decode cX2_windBest 45 = .ok (.bipush 10, 2) := by decide +kernel
theorem dX2_windBest_47 : decode cX2_windBest 47 = .ok (.if_icmp .ge 65, 3) := by decide +kernel
theorem dX2_windBest_50 : decode cX2_windBest 50 = .ok (.aload_n 0, 1) := by decide +kernel
theorem dX2_windBest_51 : decode cX2_windBest 51 = .ok (.getfield 9, 3) := by decide +kernel
theorem dX2_windBest_54 : decode cX2_windBest 54 = .ok (.aload_n 0, 1) := by decide +kernel
theorem dX2_windBest_55 : decode cX2_windBest 55 = .ok (.getfield 13, 3) := by decide +kernel
theorem dX2_windBest_58 : decode cX2_windBest 58 = .ok (.invokestatic 134, 3) := by decide +kernel
theorem dX2_windBest_61 : decode cX2_windBest 61 = .ok (.aload_n 0, 1) := by decide +kernel
theorem dX2_windBest_62 : decode cX2_windBest 62 = .ok (.getfield 13, 3) := by decide +kernel
theorem dX2_windBest_65 : decode cX2_windBest 65 = .ok (.iconst 4, 1) := by decide +kernel
theorem dX2_windBest_66 : decode cX2_windBest 66 = .ok (.iload 6, 2) := by decide +kernel
theorem dX2_windBest_68 : decode cX2_windBest 68 = .ok (.iastore, 1) := by decide +kernel
theorem dX2_windBest_69 : decode cX2_windBest 69 = .ok (.aload_n 0, 1) := by decide +kernel
theorem dX2_windBest_70 : decode cX2_windBest 70 = .ok (.getfield 13, 3) := by decide +kernel
theorem dX2_windBest_73 : decode cX2_windBest 73 = .ok (.iload_n 1, 1) := by decide +kernel
theorem dX2_windBest_74 : decode cX2_windBest 74 = .ok (.iconst (-1), 1) := by decide +kernel
theorem dX2_windBest_75 : decode cX2_windBest 75 = .ok (.invokestatic 128, 3) := by decide +kernel
theorem dX2_windBest_78 : decode cX2_windBest 78 = .ok (.aload_n 0, 1) := by decide +kernel
theorem dX2_windBest_79 : decode cX2_windBest 79 = .ok (.getfield 13, 3) := by decide +kernel
theorem dX2_windBest_82 : decode cX2_windBest 82 = .ok (.invokestatic 180, 3) := by decide +kernel
theorem dX2_windBest_85 : decode cX2_windBest 85 = .ok (.iload 5, 2) := by decide +kernel
theorem dX2_windBest_87 : decode cX2_windBest 87 = .ok (.if_icmp .gt 6, 3) := by decide +kernel
theorem dX2_windBest_90 : decode cX2_windBest 90 = .ok (.goto 16, 3) := by decide +kernel
theorem dX2_windBest_93 : decode cX2_windBest 93 = .ok (.iload 6, 2) := by decide +kernel
theorem dX2_windBest_95 : decode cX2_windBest 95 = .ok (.istore 4, 2) := by decide +kernel
theorem dX2_windBest_97 : decode cX2_windBest 97 = .ok (.aload_n 0, 1) := by decide +kernel
theorem dX2_windBest_98 : decode cX2_windBest 98 = .ok (.getfield 13, 3) := by decide +kernel
theorem dX2_windBest_101 : decode cX2_windBest 101 = .ok (.invokestatic 180, 3) := by decide +kernel
theorem dX2_windBest_104 : decode cX2_windBest 104 = .ok (.istore 5, 2) := by decide +kernel
theorem dX2_windBest_106 : decode cX2_windBest 106 = .ok (.iinc 6 1, 3) := by decide +kernel
theorem dX2_windBest_109 : decode cX2_windBest 109 = .ok (.goto (-66), 3) := by decide +kernel
theorem dX2_windBest_112 : decode cX2_windBest 112 = .ok (.iload_n 2, 1) := by decide +kernel
theorem dX2_windBest_113 : decode cX2_windBest 113 = .ok (.ifCond .ne 8, 3) := by decide +kernel
theorem dX2_windBest_116 : decode cX2_windBest 116 = .ok (.iload 4, 2) := by decide +kernel
theorem dX2_windBest_118 : decode cX2_windBest 118 = .ok (.goto 5, 3) := by decide +kernel
theorem dX2_windBest_121 : decode cX2_windBest 121 = .ok (.iload 5, 2) := by decide +kernel
theorem dX2_windBest_123 : decode cX2_windBest 123 = .ok (.ireturn, 1) := by decide +kernel
set_option maxRecDepth 20000 in
theorem ggX2_move_X2_isReader : GoodIn wsX2_move wsX2_isReader := goodIn_r _ [7, 1, 8, 9, 6, 10, 70, 71, 72, 73, 74, 75, 76, 77, 78, 79, 80, 81, 82] (by decide +kernel) (by decide +kernel)
set_option maxRecDepth 20000 in
theorem gX2_move_X2_isReader : GoodIn wsX2_move (wsV RX2 147 RX2 yX2_isReader wsX2_isReader) := goodIn_app (goodIn_of _ (by decide +kernel)) ggX2_move_X2_isReader
set_option maxRecDepth 20000 in
theorem ggX2_move_X2_wrongBy : GoodIn wsX2_move wsX2_wrongBy := goodIn_r _ [13] (by decide +kernel) (by decide +kernel)
set_option maxRecDepth 20000 in
theorem gX2_move_X2_wrongBy : GoodIn wsX2_move (va_wsS RX2 153 yX2_wrongBy wsX2_wrongBy) := goodIn_app (goodIn_of _ (by decide +kernel)) ggX2_move_X2_wrongBy
set_option maxRecDepth 20000 in
theorem ggX2_move_X2_isIn : GoodIn wsX2_move wsX2_isIn := goodIn_r _ [10] (by decide +kernel) (by decide +kernel)
set_option maxRecDepth 20000 in
theorem gX2_move_X2_isIn : GoodIn wsX2_move (va_wsS RX2 40 yX2_isIn wsX2_isIn) := goodIn_app (goodIn_of _ (by decide +kernel)) ggX2_move_X2_isIn
set_option maxRecDepth 20000 in
theorem ggX2_move_X2_no : GoodIn wsX2_move wsX2_no := goodIn_r _ [17, 18, 70, 71, 72, 73, 74, 75, 76, 77, 78, 79, 80, 81, 82] (by decide +kernel) (by decide +kernel)
set_option maxRecDepth 20000 in
theorem gX2_move_X2_no : GoodIn wsX2_move (wsV RX2 36 RX2 yX2_no wsX2_no) := goodIn_app (goodIn_of _ (by decide +kernel)) ggX2_move_X2_no
set_option maxRecDepth 20000 in
theorem ggX2_move_X2_copies : GoodIn wsX2_move wsX2_copies := goodIn_r _ [21] (by decide +kernel) (by decide +kernel)
set_option maxRecDepth 20000 in
theorem gX2_move_X2_copies : GoodIn wsX2_move (va_wsS RX2 134 yX2_copies wsX2_copies) := goodIn_app (goodIn_of _ (by decide +kernel)) ggX2_move_X2_copies
set_option maxRecDepth 20000 in
theorem ggX2_move_X2_ofP : GoodIn wsX2_move wsX2_ofP := goodIn_r _ [24] (by decide +kernel) (by decide +kernel)
set_option maxRecDepth 20000 in
theorem gX2_move_X2_ofP : GoodIn wsX2_move (va_wsS RX2 48 yX2_ofP wsX2_ofP) := goodIn_app (goodIn_of _ (by decide +kernel)) ggX2_move_X2_ofP
set_option maxRecDepth 20000 in
theorem ggX2_move_X2_nightsOn : GoodIn wsX2_move wsX2_nightsOn := goodIn_r _ [27, 28, 29, 6, 30, 22, 23, 24, 31, 32, 33, 34, 35, 36, 37, 38, 39, 40, 41, 42, 43, 44, 45, 46, 47, 48, 49, 50, 51, 52, 53, 54, 55, 56, 57, 58, 59, 60, 61, 62, 63] (by decide +kernel) (by decide +kernel)
set_option maxRecDepth 20000 in
theorem gX2_move_X2_nightsOn : GoodIn wsX2_move (va_wsS RX2 128 yX2_nightsOn wsX2_nightsOn) := goodIn_app (goodIn_of _ (by decide +kernel)) ggX2_move_X2_nightsOn
set_option maxRecDepth 20000 in
theorem ggX2_move_X2_wordsOf : GoodIn wsX2_move wsX2_wordsOf := goodIn_r _ [66, 22, 23, 6, 24] (by decide +kernel) (by decide +kernel)
set_option maxRecDepth 20000 in
theorem gX2_move_X2_wordsOf : GoodIn wsX2_move (va_wsS RX2 91 yX2_wordsOf wsX2_wordsOf) := goodIn_app (goodIn_of _ (by decide +kernel)) ggX2_move_X2_wordsOf
set_option maxRecDepth 20000 in
theorem ggX2_move_X2_bits : GoodIn wsX2_move wsX2_bits := goodIn_r _ [69] (by decide +kernel) (by decide +kernel)
set_option maxRecDepth 20000 in
theorem gX2_move_X2_bits : GoodIn wsX2_move (va_wsS RX2 94 yX2_bits wsX2_bits) := goodIn_app (goodIn_of _ (by decide +kernel)) ggX2_move_X2_bits
theorem dX2_move_0 : decode cX2_move 0 = .ok (.aload_n 0, 1) := by decide +kernel
theorem dX2_move_1 : decode cX2_move 1 = .ok (.iload_n 1, 1) := by decide +kernel
theorem dX2_move_2 : decode cX2_move 2 = .ok (.invokevirtual 147, 3) := by decide +kernel
theorem dX2_move_5 : decode cX2_move 5 = .ok (.ifCond .eq 13, 3) := by decide +kernel
theorem dX2_move_8 : decode cX2_move 8 = .ok (.iload_n 2, 1) := by decide +kernel
theorem dX2_move_9 : decode cX2_move 9 = .ok (.iconst 0, 1) := by decide +kernel
theorem dX2_move_10 : decode cX2_move 10 = .ok (.bipush 30, 2) := by decide +kernel
theorem dX2_move_12 : decode cX2_move 12 = .ok (.invokestatic 153, 3) := by decide +kernel
theorem dX2_move_15 : decode cX2_move 15 = .ok (.goto 4, 3) := by decide +kernel
theorem dX2_move_18 : decode cX2_move 18 = .ok (.iconst (-1), 1) := by decide +kernel
theorem dX2_move_19 : decode cX2_move 19 = .ok (.istore 4, 2) := by decide +kernel
theorem dX2_move_21 : decode cX2_move 21 = .ok (.iload 4, 2) := by decide +kernel
theorem dX2_move_23 : decode cX2_move 23 = .ok (.ifCond .ne 16, 3) := by decide +kernel
theorem dX2_move_26 : decode cX2_move 26 = .ok (.iload_n 3, 1) := by decide +kernel
theorem dX2_move_27 : decode cX2_move 27 = .ok (.iconst 0, 1) := by decide +kernel
theorem dX2_move_28 : decode cX2_move 28 = .ok (.iconst 1, 1) := by decide +kernel
theorem dX2_move_29 : decode cX2_move 29 = .ok (.invokestatic 40, 3) := by decide +kernel
theorem dX2_move_32 : decode cX2_move 32 = .ok (.ifCond .ne 7, 3) := by decide +kernel
theorem dX2_move_35 : decode cX2_move 35 = .ok (.bipush (-2), 2) := by decide +kernel
theorem dX2_move_37 : decode cX2_move 37 = .ok (.istore 4, 2) := by decide +kernel
theorem dX2_move_39 : decode cX2_move 39 = .ok (.iload 4, 2) := by decide +kernel
theorem dX2_move_41 : decode cX2_move 41 = .ok (.ifCond .eq 10, 3) := by decide +kernel
theorem dX2_move_44 : decode cX2_move 44 = .ok (.aload_n 0, 1) := by decide +kernel
theorem dX2_move_45 : decode cX2_move 45 = .ok (.iload 4, 2) := by decide +kernel
theorem dX2_move_47 : decode cX2_move 47 = .ok (.invokevirtual 36, 3) := by decide +kernel
theorem dX2_move_50 : decode cX2_move 50 = .ok (.ireturn, 1) := by decide +kernel
theorem dX2_move_51 : decode cX2_move 51 = .ok (.iconst 0, 1) := by decide +kernel
theorem dX2_move_52 : decode cX2_move 52 = .ok (.istore 5, 2) := by decide +kernel
theorem dX2_move_54 : decode cX2_move 54 = .ok (.iconst (-1), 1) := by decide +kernel
theorem dX2_move_55 : decode cX2_move 55 = .ok (.istore 6, 2) := by decide +kernel
theorem dX2_move_57 : decode cX2_move 57 = .ok (.iconst 0, 1) := by decide +kernel
theorem dX2_move_58 : decode cX2_move 58 = .ok (.istore 7, 2) := by decide +kernel
theorem dX2_move_60 : decode cX2_move 60 = .ok (.iload 7, 2) := by decide +kernel
theorem dX2_move_62 : decode cX2_move 62 = .ok (.bipush 20, 2) := by decide +kernel
theorem dX2_move_64 : decode cX2_move 64 = .ok (.if_icmp .ge 77, 3) := by decide +kernel
theorem dX2_move_67 : decode cX2_move 67 = .ok (.aload_n 0, 1) := by decide +kernel
theorem dX2_move_68 : decode cX2_move 68 = .ok (.getfield 9, 3) := by decide +kernel
theorem dX2_move_71 : decode cX2_move 71 = .ok (.aload_n 0, 1) := by decide +kernel
theorem dX2_move_72 : decode cX2_move 72 = .ok (.getfield 13, 3) := by decide +kernel
theorem dX2_move_75 : decode cX2_move 75 = .ok (.invokestatic 134, 3) := by decide +kernel
theorem dX2_move_78 : decode cX2_move 78 = .ok (.aload_n 0, 1) := by decide +kernel
theorem dX2_move_79 : decode cX2_move 79 = .ok (.getfield 13, 3) := by decide +kernel
theorem dX2_move_82 : decode cX2_move 82 = .ok (.iload_n 1, 1) := by decide +kernel
theorem dX2_move_83 : decode cX2_move 83 = .ok (.iconst 0, 1) := by decide +kernel
theorem dX2_move_84 : decode cX2_move 84 = .ok (.invokestatic 48, 3) := by decide +kernel
theorem dX2_move_87 : decode cX2_move 87 = .ok (.iload 7, 2) := by decide +kernel
theorem dX2_move_89 : decode cX2_move 89 = .ok (.iastore, 1) := by decide +kernel
theorem dX2_move_90 : decode cX2_move 90 = .ok (.aload_n 0, 1) := by decide +kernel
theorem dX2_move_91 : decode cX2_move 91 = .ok (.getfield 13, 3) := by decide +kernel
theorem dX2_move_94 : decode cX2_move 94 = .ok (.iload_n 2, 1) := by decide +kernel
theorem dX2_move_95 : decode cX2_move 95 = .ok (.iconst (-1), 1) := by decide +kernel
theorem dX2_move_96 : decode cX2_move 96 = .ok (.invokestatic 128, 3) := by decide +kernel
theorem dX2_move_99 : decode cX2_move 99 = .ok (.aload_n 0, 1) := by decide +kernel
theorem dX2_move_100 : decode cX2_move 100 = .ok (.getfield 13, 3) := by decide +kernel
theorem dX2_move_103 : decode cX2_move 103 = .ok (.iload_n 1, 1) := by decide +kernel
theorem dX2_move_104 : decode cX2_move 104 = .ok (.invokestatic 91, 3) := by decide +kernel
theorem dX2_move_107 : decode cX2_move 107 = .ok (.invokestatic 94, 3) := by decide +kernel
theorem dX2_move_110 : decode cX2_move 110 = .ok (.iload 6, 2) := by decide +kernel
theorem dX2_move_112 : decode cX2_move 112 = .ok (.if_icmp .gt 6, 3) := by decide +kernel
theorem dX2_move_115 : decode cX2_move 115 = .ok (.goto 20, 3) := by decide +kernel
theorem dX2_move_118 : decode cX2_move 118 = .ok (.iload 7, 2) := by decide +kernel
theorem dX2_move_120 : decode cX2_move 120 = .ok (.istore 5, 2) := by decide +kernel
theorem dX2_move_122 : decode cX2_move 122 = .ok (.aload_n 0, 1) := by decide +kernel
theorem dX2_move_123 : decode cX2_move 123 = .ok (.getfield 13, 3) := by decide +kernel
theorem dX2_move_126 : decode cX2_move 126 = .ok (.iload_n 1, 1) := by decide +kernel
theorem dX2_move_127 : decode cX2_move 127 = .ok (.invokestatic 91, 3) := by decide +kernel
theorem dX2_move_130 : decode cX2_move 130 = .ok (.invokestatic 94, 3) := by decide +kernel
theorem dX2_move_133 : decode cX2_move 133 = .ok (.istore 6, 2) := by decide +kernel
theorem dX2_move_135 : decode cX2_move 135 = .ok (.iinc 7 1, 3) := by decide +kernel
theorem dX2_move_138 : decode cX2_move 138 = .ok (.goto (-78), 3) := by decide +kernel
theorem dX2_move_141 : decode cX2_move 141 = .ok (.iload_n 3, 1) := by decide +kernel
theorem dX2_move_142 : decode cX2_move 142 = .ok (.ifCond .ne 8, 3) := by decide +kernel
theorem dX2_move_145 : decode cX2_move 145 = .ok (.iload 5, 2) := by decide +kernel
theorem dX2_move_147 : decode cX2_move 147 = .ok (.goto 5, 3) := by decide +kernel
theorem dX2_move_150 : decode cX2_move 150 = .ok (.iload 6, 2) := by decide +kernel
theorem dX2_move_152 : decode cX2_move 152 = .ok (.ireturn, 1) := by decide +kernel
set_option maxRecDepth 20000 in
theorem ggX2_bestNow_X2_takes : GoodIn wsX2_bestNow wsX2_takes := goodIn_r _ [7, 2, 1, 8, 9, 6, 10, 11, 12, 13, 14, 15, 16, 17, 18, 19, 20, 21, 22, 23, 24, 25, 26, 27, 28, 29, 30, 31, 32, 33, 34, 35, 36, 37, 38, 39, 40, 41, 42, 43, 44, 45, 46, 47, 48, 49, 50, 51, 52, 62, 63, 64, 65, 66, 67, 68, 69, 70, 71, 72, 73, 74] (by decide +kernel) (by decide +kernel)
set_option maxRecDepth 20000 in
theorem gX2_bestNow_X2_takes : GoodIn wsX2_bestNow (wsV RX2 160 RX2 yX2_takes wsX2_takes) := goodIn_app (goodIn_of _ (by decide +kernel)) ggX2_bestNow_X2_takes
set_option maxRecDepth 20000 in
theorem ggX2_bestNow_X2_allWords : GoodIn wsX2_bestNow wsX2_allWords := goodIn_r _ [55, 56, 57, 6, 58, 17, 18, 19, 59, 60, 61] (by decide +kernel) (by decide +kernel)
set_option maxRecDepth 20000 in
theorem gX2_bestNow_X2_allWords : GoodIn wsX2_bestNow (va_wsS RX2 183 yX2_allWords wsX2_allWords) := goodIn_app (goodIn_of _ (by decide +kernel)) ggX2_bestNow_X2_allWords
set_option maxRecDepth 20000 in
theorem ggX2_bestNow_X2_ofR : GoodIn wsX2_bestNow wsX2_ofR := goodIn_r _ [28] (by decide +kernel) (by decide +kernel)
set_option maxRecDepth 20000 in
theorem gX2_bestNow_X2_ofR : GoodIn wsX2_bestNow (va_wsS RX2 44 yX2_ofR wsX2_ofR) := goodIn_app (goodIn_of _ (by decide +kernel)) ggX2_bestNow_X2_ofR
set_option maxRecDepth 20000 in
theorem ggX2_bestNow_X2_canGo : GoodIn wsX2_bestNow wsX2_canGo := goodIn_r _ [25, 26, 27, 6, 28, 29, 30, 31] (by decide +kernel) (by decide +kernel)
set_option maxRecDepth 20000 in
theorem gX2_bestNow_X2_canGo : GoodIn wsX2_bestNow (va_wsS RX2 76 yX2_canGo wsX2_canGo) := goodIn_app (goodIn_of _ (by decide +kernel)) ggX2_bestNow_X2_canGo
set_option maxRecDepth 20000 in
theorem ggX2_bestNow_X2_copies : GoodIn wsX2_bestNow wsX2_copies := goodIn_r _ [10] (by decide +kernel) (by decide +kernel)
set_option maxRecDepth 20000 in
theorem gX2_bestNow_X2_copies : GoodIn wsX2_bestNow (va_wsS RX2 134 yX2_copies wsX2_copies) := goodIn_app (goodIn_of _ (by decide +kernel)) ggX2_bestNow_X2_copies
set_option maxRecDepth 20000 in
theorem ggX2_bestNow_X2_sendsIn : GoodIn wsX2_bestNow wsX2_sendsIn := goodIn_r _ [34, 26, 27, 6, 28, 29, 30, 31, 35, 36, 37, 38, 39, 40, 41, 42, 43, 17, 18, 19, 44, 45, 46, 47, 48, 49, 50, 51, 52] (by decide +kernel) (by decide +kernel)
set_option maxRecDepth 20000 in
theorem gX2_bestNow_X2_sendsIn : GoodIn wsX2_bestNow (va_wsS RX2 84 yX2_sendsIn wsX2_sendsIn) := goodIn_app (goodIn_of _ (by decide +kernel)) ggX2_bestNow_X2_sendsIn
set_option maxRecDepth 20000 in
theorem ggX2_bestNow_X2_nightsOn : GoodIn wsX2_bestNow wsX2_nightsOn := goodIn_r _ [13, 14, 15, 6, 16, 17, 18, 19, 20, 21, 22, 23, 24, 25, 26, 27, 28, 29, 30, 31, 32, 33, 34, 35, 36, 37, 38, 39, 40, 41, 42, 43, 44, 45, 46, 47, 48, 49, 50, 51, 52] (by decide +kernel) (by decide +kernel)
set_option maxRecDepth 20000 in
theorem gX2_bestNow_X2_nightsOn : GoodIn wsX2_bestNow (va_wsS RX2 128 yX2_nightsOn wsX2_nightsOn) := goodIn_app (goodIn_of _ (by decide +kernel)) ggX2_bestNow_X2_nightsOn
theorem dX2_bestNow_0 : decode cX2_bestNow 0 = .ok (.aload_n 0, 1) := by decide +kernel
theorem dX2_bestNow_1 : decode cX2_bestNow 1 = .ok (.iload_n 1, 1) := by decide +kernel
theorem dX2_bestNow_2 : decode cX2_bestNow 2 = .ok (.invokevirtual 160, 3) := by decide +kernel
theorem dX2_bestNow_5 : decode cX2_bestNow 5 = .ok (.aload_n 0, 1) := by decide +kernel
theorem dX2_bestNow_6 : decode cX2_bestNow 6 = .ok (.getfield 13, 3) := by decide +kernel
theorem dX2_bestNow_9 : decode cX2_bestNow 9 = .ok (.invokestatic 183, 3) := by decide +kernel
theorem dX2_bestNow_12 : decode cX2_bestNow 12 = .ok (.istore_n 3, 1) := by decide +kernel
theorem dX2_bestNow_13 : decode cX2_bestNow 13 = .ok (.bipush (-9), 2) := by decide +kernel
theorem dX2_bestNow_15 : decode cX2_bestNow 15 = .ok (.istore 4, 2) := by decide +kernel
theorem dX2_bestNow_17 : decode cX2_bestNow 17 = .ok (.iconst 0, 1) := by decide +kernel
theorem dX2_bestNow_18 : decode cX2_bestNow 18 = .ok (.istore 5, 2) := by decide +kernel
theorem dX2_bestNow_20 : decode cX2_bestNow 20 = .ok (.iload 5, 2) := by decide +kernel
theorem dX2_bestNow_22 : decode cX2_bestNow 22 = .ok (.aload_n 0, 1) := by decide +kernel
theorem dX2_bestNow_23 : decode cX2_bestNow 23 = .ok (.getfield 9, 3) := by decide +kernel
theorem dX2_bestNow_26 : decode cX2_bestNow 26 = .ok (.iconst 0, 1) := by decide +kernel
theorem dX2_bestNow_27 : decode cX2_bestNow 27 = .ok (.iaload, 1) := by decide +kernel
theorem dX2_bestNow_28 : decode cX2_bestNow 28 = .ok (.if_icmp .ge 118, 3) := by decide +kernel
theorem dX2_bestNow_31 : decode cX2_bestNow 31 = .ok (.aload_n 0, 1) := by decide +kernel
theorem dX2_bestNow_32 : decode cX2_bestNow 32 = .ok (.getfield 9, 3) := by decide +kernel
theorem dX2_bestNow_35 : decode cX2_bestNow 35 = .ok (.iload 5, 2) := by decide +kernel
theorem dX2_bestNow_37 : decode cX2_bestNow 37 = .ok (.iconst 3, 1) := by decide +kernel
theorem dX2_bestNow_38 : decode cX2_bestNow 38 = .ok (.invokestatic 44, 3) := by decide +kernel
theorem dX2_bestNow_41 : decode cX2_bestNow 41 = .ok (.iaload, 1) := by decide +kernel
theorem dX2_bestNow_42 : decode cX2_bestNow 42 = .ok (.iconst 1, 1) := by decide +kernel
theorem dX2_bestNow_43 : decode cX2_bestNow 43 = .ok (.if_icmp .eq 97, 3) := by decide +kernel
theorem dX2_bestNow_46 : decode cX2_bestNow 46 = .ok (.iload_n 2, 1) := by decide +kernel
theorem dX2_bestNow_47 : decode cX2_bestNow 47 = .ok (.ifCond .ne 18, 3) := by decide +kernel
theorem dX2_bestNow_50 : decode cX2_bestNow 50 = .ok (.aload_n 0, 1) := by decide +kernel
theorem dX2_bestNow_51 : decode cX2_bestNow 51 = .ok (.getfield 9, 3) := by decide +kernel
theorem dX2_bestNow_54 : decode cX2_bestNow 54 = .ok (.iload 5, 2) := by decide +kernel
theorem dX2_bestNow_56 : decode cX2_bestNow 56 = .ok (.invokestatic 76, 3) := by decide +kernel
theorem dX2_bestNow_59 : decode cX2_bestNow 59 = .ok (.ifCond .ne 6, 3) := by decide +kernel
theorem dX2_bestNow_62 : decode cX2_bestNow 62 = .ok (.goto 78, 3) := by decide +kernel
theorem dX2_bestNow_65 : decode cX2_bestNow 65 = .ok (.aload_n 0, 1) := by decide +kernel
theorem dX2_bestNow_66 : decode cX2_bestNow 66 = .ok (.getfield 9, 3) := by decide +kernel
theorem dX2_bestNow_69 : decode cX2_bestNow 69 = .ok (.aload_n 0, 1) := by decide +kernel
theorem dX2_bestNow_70 : decode cX2_bestNow 70 = .ok (.getfield 13, 3) := by decide +kernel
theorem dX2_bestNow_73 : decode cX2_bestNow 73 = .ok (.invokestatic 134, 3) := by decide +kernel
theorem dX2_bestNow_76 : decode cX2_bestNow 76 = .ok (.iload_n 2, 1) := by decide +kernel
theorem dX2_bestNow_77 : decode cX2_bestNow 77 = .ok (.ifCond .eq 18, 3) := by decide +kernel
theorem dX2_bestNow_80 : decode cX2_bestNow 80 = .ok (.aload_n 0, 1) := by decide +kernel
theorem dX2_bestNow_81 : decode cX2_bestNow 81 = .ok (.getfield 13, 3) := by decide +kernel
theorem dX2_bestNow_84 : decode cX2_bestNow 84 = .ok (.iload 5, 2) := by decide +kernel
theorem dX2_bestNow_86 : decode cX2_bestNow 86 = .ok (.iconst 3, 1) := by decide +kernel
theorem dX2_bestNow_87 : decode cX2_bestNow 87 = .ok (.invokestatic 44, 3) := by decide +kernel
theorem dX2_bestNow_90 : decode cX2_bestNow 90 = .ok (.iconst 1, 1) := by decide +kernel
theorem dX2_bestNow_91 : decode cX2_bestNow 91 = .ok (.iastore, 1) := by decide +kernel
theorem dX2_bestNow_92 : decode cX2_bestNow 92 = .ok (.goto 13, 3) := by decide +kernel
theorem dX2_bestNow_95 : decode cX2_bestNow 95 = .ok (.aload_n 0, 1) := by decide +kernel
theorem dX2_bestNow_96 : decode cX2_bestNow 96 = .ok (.getfield 13, 3) := by decide +kernel
theorem dX2_bestNow_99 : decode cX2_bestNow 99 = .ok (.iload 5, 2) := by decide +kernel
theorem dX2_bestNow_101 : decode cX2_bestNow 101 = .ok (.iconst (-1), 1) := by decide +kernel
theorem dX2_bestNow_102 : decode cX2_bestNow 102 = .ok (.invokestatic 84, 3) := by decide +kernel
theorem dX2_bestNow_105 : decode cX2_bestNow 105 = .ok (.aload_n 0, 1) := by decide +kernel
theorem dX2_bestNow_106 : decode cX2_bestNow 106 = .ok (.getfield 13, 3) := by decide +kernel
theorem dX2_bestNow_109 : decode cX2_bestNow 109 = .ok (.iload_n 1, 1) := by decide +kernel
theorem dX2_bestNow_110 : decode cX2_bestNow 110 = .ok (.iconst (-1), 1) := by decide +kernel
theorem dX2_bestNow_111 : decode cX2_bestNow 111 = .ok (.invokestatic 128, 3) := by decide +kernel
theorem dX2_bestNow_114 : decode cX2_bestNow 114 = .ok (.aload_n 0, 1) := by decide +kernel
theorem dX2_bestNow_115 : decode cX2_bestNow 115 = .ok (.getfield 13, 3) := by decide +kernel
theorem dX2_bestNow_118 : decode cX2_bestNow 118 = .ok (.invokestatic 183, 3) := by decide +kernel
theorem dX2_bestNow_121 : decode cX2_bestNow 121 = .ok (.iload_n 3, 1) := by decide +kernel
theorem dX2_bestNow_122 : decode cX2_bestNow 122 = .ok (.if_icmp .gt 6, 3) := by decide +kernel
theorem dX2_bestNow_125 : decode cX2_bestNow 125 = .ok (.goto 15, 3) := by decide +kernel
theorem dX2_bestNow_128 : decode cX2_bestNow 128 = .ok (.iload 5, 2) := by decide +kernel
theorem dX2_bestNow_130 : decode cX2_bestNow 130 = .ok (.istore 4, 2) := by decide +kernel
theorem dX2_bestNow_132 : decode cX2_bestNow 132 = .ok (.aload_n 0, 1) := by decide +kernel
theorem dX2_bestNow_133 : decode cX2_bestNow 133 = .ok (.getfield 13, 3) := by decide +kernel
theorem dX2_bestNow_136 : decode cX2_bestNow 136 = .ok (.invokestatic 183, 3) := by decide +kernel
theorem dX2_bestNow_139 : decode cX2_bestNow 139 = .ok (.istore_n 3, 1) := by decide +kernel
theorem dX2_bestNow_140 : decode cX2_bestNow 140 = .ok (.iinc 5 1, 3) := by decide +kernel
theorem dX2_bestNow_143 : decode cX2_bestNow 143 = .ok (.goto (-123), 3) := by decide +kernel
theorem dX2_bestNow_146 : decode cX2_bestNow 146 = .ok (.iload 4, 2) := by decide +kernel
theorem dX2_bestNow_148 : decode cX2_bestNow 148 = .ok (.ireturn, 1) := by decide +kernel
set_option maxRecDepth 20000 in
theorem ggX2_forgo_X2_wrongBy : GoodIn wsX2_forgo wsX2_wrongBy := goodIn_r _ [4] (by decide +kernel) (by decide +kernel)
set_option maxRecDepth 20000 in
theorem gX2_forgo_X2_wrongBy : GoodIn wsX2_forgo (va_wsS RX2 153 yX2_wrongBy wsX2_wrongBy) := goodIn_app (goodIn_of _ (by decide +kernel)) ggX2_forgo_X2_wrongBy
set_option maxRecDepth 20000 in
theorem ggX2_forgo_X2_no : GoodIn wsX2_forgo wsX2_no := goodIn_r _ [8, 9, 74, 75, 76, 77, 78, 79, 80, 81, 82, 83, 84, 85, 86] (by decide +kernel) (by decide +kernel)
set_option maxRecDepth 20000 in
theorem gX2_forgo_X2_no : GoodIn wsX2_forgo (wsV RX2 36 RX2 yX2_no wsX2_no) := goodIn_app (goodIn_of _ (by decide +kernel)) ggX2_forgo_X2_no
set_option maxRecDepth 20000 in
theorem ggX2_forgo_X2_bestNow : GoodIn wsX2_forgo wsX2_bestNow := goodIn_r _ [13, 14, 15, 16, 17, 18, 3, 19, 20, 21, 22, 23, 24, 25, 26, 27, 28, 29, 30, 31, 32, 33, 34, 35, 36, 37, 38, 39, 40, 41, 42, 43, 44, 45, 46, 47, 48, 49, 50, 51, 52, 53, 54, 55, 56, 57, 58, 59, 60, 61, 62, 63, 64, 65, 66, 67, 68, 69, 70, 71, 72, 73, 74, 75, 76, 77, 78, 79, 80, 81, 82, 83, 84, 85, 86] (by decide +kernel) (by decide +kernel)
set_option maxRecDepth 20000 in
theorem gX2_forgo_X2_bestNow : GoodIn wsX2_forgo (wsV RX2 186 RX2 yX2_bestNow wsX2_bestNow) := goodIn_app (goodIn_of _ (by decide +kernel)) ggX2_forgo_X2_bestNow
theorem dX2_forgo_0 : decode cX2_forgo 0 = .ok (.iload_n 1, 1) := by decide +kernel
theorem dX2_forgo_1 : decode cX2_forgo 1 = .ok (.iconst 1, 1) := by decide +kernel
theorem dX2_forgo_2 : decode cX2_forgo 2 = .ok (.bipush 30, 2) := by decide +kernel
theorem dX2_forgo_4 : decode cX2_forgo 4 = .ok (.invokestatic 153, 3) := by decide +kernel
theorem dX2_forgo_7 : decode cX2_forgo 7 = .ok (.istore_n 2, 1) := by decide +kernel
theorem dX2_forgo_8 : decode cX2_forgo 8 = .ok (.iload_n 2, 1) := by decide +kernel
theorem dX2_forgo_9 : decode cX2_forgo 9 = .ok (.ifCond .eq 11, 3) := by decide +kernel
theorem dX2_forgo_12 : decode cX2_forgo 12 = .ok (.aload_n 0, 1) := by decide +kernel
theorem dX2_forgo_13 : decode cX2_forgo 13 = .ok (.iload_n 2, 1) := by decide +kernel
theorem dX2_forgo_14 : decode cX2_forgo 14 = .ok (.invokevirtual 36, 3) := by decide +kernel
theorem dX2_forgo_17 : decode cX2_forgo 17 = .ok (.goto 9, 3) := by decide +kernel
theorem dX2_forgo_20 : decode cX2_forgo 20 = .ok (.aload_n 0, 1) := by decide +kernel
theorem dX2_forgo_21 : decode cX2_forgo 21 = .ok (.iload_n 1, 1) := by decide +kernel
theorem dX2_forgo_22 : decode cX2_forgo 22 = .ok (.iconst 1, 1) := by decide +kernel
theorem dX2_forgo_23 : decode cX2_forgo 23 = .ok (.invokevirtual 186, 3) := by decide +kernel
theorem dX2_forgo_26 : decode cX2_forgo 26 = .ok (.ireturn, 1) := by decide +kernel
set_option maxRecDepth 20000 in
theorem ggX2_firstUp_X2_wrongBy : GoodIn wsX2_firstUp wsX2_wrongBy := goodIn_r _ [4] (by decide +kernel) (by decide +kernel)
set_option maxRecDepth 20000 in
theorem gX2_firstUp_X2_wrongBy : GoodIn wsX2_firstUp (va_wsS RX2 153 yX2_wrongBy wsX2_wrongBy) := goodIn_app (goodIn_of _ (by decide +kernel)) ggX2_firstUp_X2_wrongBy
set_option maxRecDepth 20000 in
theorem ggX2_firstUp_X2_no : GoodIn wsX2_firstUp wsX2_no := goodIn_r _ [8, 9, 74, 75, 76, 77, 78, 79, 80, 81, 82, 83, 84, 85, 86] (by decide +kernel) (by decide +kernel)
set_option maxRecDepth 20000 in
theorem gX2_firstUp_X2_no : GoodIn wsX2_firstUp (wsV RX2 36 RX2 yX2_no wsX2_no) := goodIn_app (goodIn_of _ (by decide +kernel)) ggX2_firstUp_X2_no
set_option maxRecDepth 20000 in
theorem ggX2_firstUp_X2_bestNow : GoodIn wsX2_firstUp wsX2_bestNow := goodIn_r _ [13, 14, 15, 16, 17, 18, 3, 19, 20, 21, 22, 23, 24, 25, 26, 27, 28, 29, 30, 31, 32, 33, 34, 35, 36, 37, 38, 39, 40, 41, 42, 43, 44, 45, 46, 47, 48, 49, 50, 51, 52, 53, 54, 55, 56, 57, 58, 59, 60, 61, 62, 63, 64, 65, 66, 67, 68, 69, 70, 71, 72, 73, 74, 75, 76, 77, 78, 79, 80, 81, 82, 83, 84, 85, 86] (by decide +kernel) (by decide +kernel)
set_option maxRecDepth 20000 in
theorem gX2_firstUp_X2_bestNow : GoodIn wsX2_firstUp (wsV RX2 186 RX2 yX2_bestNow wsX2_bestNow) := goodIn_app (goodIn_of _ (by decide +kernel)) ggX2_firstUp_X2_bestNow
theorem dX2_firstUp_0 : decode cX2_firstUp 0 = .ok (.iload_n 1, 1) := by decide +kernel
theorem dX2_firstUp_1 : decode cX2_firstUp 1 = .ok (.iconst 1, 1) := by decide +kernel
theorem dX2_firstUp_2 : decode cX2_firstUp 2 = .ok (.bipush 30, 2) := by decide +kernel
theorem dX2_firstUp_4 : decode cX2_firstUp 4 = .ok (.invokestatic 153, 3) := by decide +kernel
theorem dX2_firstUp_7 : decode cX2_firstUp 7 = .ok (.istore_n 2, 1) := by decide +kernel
theorem dX2_firstUp_8 : decode cX2_firstUp 8 = .ok (.iload_n 2, 1) := by decide +kernel
theorem dX2_firstUp_9 : decode cX2_firstUp 9 = .ok (.ifCond .eq 11, 3) := by decide +kernel
theorem dX2_firstUp_12 : decode cX2_firstUp 12 = .ok (.aload_n 0, 1) := by decide +kernel
theorem dX2_firstUp_13 : decode cX2_firstUp 13 = .ok (.iload_n 2, 1) := by decide +kernel
theorem dX2_firstUp_14 : decode cX2_firstUp 14 = .ok (.invokevirtual 36, 3) := by decide +kernel
theorem dX2_firstUp_17 : decode cX2_firstUp 17 = .ok (.goto 9, 3) := by decide +kernel
theorem dX2_firstUp_20 : decode cX2_firstUp 20 = .ok (.aload_n 0, 1) := by decide +kernel
theorem dX2_firstUp_21 : decode cX2_firstUp 21 = .ok (.iload_n 1, 1) := by decide +kernel
