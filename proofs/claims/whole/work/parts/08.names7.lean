theorem dX2_firstUp_22 : decode cX2_firstUp 22 = .ok (.iconst 0, 1) := by decide +kernel
theorem dX2_firstUp_23 : decode cX2_firstUp 23 = .ok (.invokevirtual 186, 3) := by decide +kernel
theorem dX2_firstUp_26 : decode cX2_firstUp 26 = .ok (.ireturn, 1) := by decide +kernel
set_option maxRecDepth 20000 in
theorem ggX2_darkOf_X2_ofR : GoodIn wsX2_darkOf wsX2_ofR := goodIn_r _ [5] (by decide +kernel) (by decide +kernel)
set_option maxRecDepth 20000 in
theorem gX2_darkOf_X2_ofR : GoodIn wsX2_darkOf (va_wsS RX2 44 yX2_ofR wsX2_ofR) := goodIn_app (goodIn_of _ (by decide +kernel)) ggX2_darkOf_X2_ofR
set_option maxRecDepth 20000 in
theorem ggX2_darkOf_X2_darkBy : GoodIn wsX2_darkOf wsX2_darkBy := goodIn_r _ [8] (by decide +kernel) (by decide +kernel)
set_option maxRecDepth 20000 in
theorem gX2_darkOf_X2_darkBy : GoodIn wsX2_darkOf (va_wsS RX2 141 yX2_darkBy wsX2_darkBy) := goodIn_app (goodIn_of _ (by decide +kernel)) ggX2_darkOf_X2_darkBy
theorem dX2_darkOf_0 : decode cX2_darkOf 0 = .ok (.aload_n 0, 1) := by decide +kernel
theorem dX2_darkOf_1 : decode cX2_darkOf 1 = .ok (.getfield 9, 3) := by decide +kernel
theorem dX2_darkOf_4 : decode cX2_darkOf 4 = .ok (.iload_n 1, 1) := by decide +kernel
theorem dX2_darkOf_5 : decode cX2_darkOf 5 = .ok (.iconst 0, 1) := by decide +kernel
theorem dX2_darkOf_6 : decode cX2_darkOf 6 = .ok (.invokestatic 44, 3) := by decide +kernel
theorem dX2_darkOf_9 : decode cX2_darkOf 9 = .ok (.iaload, 1) := by decide +kernel
theorem dX2_darkOf_10 : decode cX2_darkOf 10 = .ok (.aload_n 0, 1) := by decide +kernel
theorem dX2_darkOf_11 : decode cX2_darkOf 11 = .ok (.getfield 9, 3) := by decide +kernel
theorem dX2_darkOf_14 : decode cX2_darkOf 14 = .ok (.iload_n 1, 1) := by decide +kernel
theorem dX2_darkOf_15 : decode cX2_darkOf 15 = .ok (.iconst 1, 1) := by decide +kernel
theorem dX2_darkOf_16 : decode cX2_darkOf 16 = .ok (.invokestatic 44, 3) := by decide +kernel
theorem dX2_darkOf_19 : decode cX2_darkOf 19 = .ok (.iaload, 1) := by decide +kernel
theorem dX2_darkOf_20 : decode cX2_darkOf 20 = .ok (.invokestatic 141, 3) := by decide +kernel
theorem dX2_darkOf_23 : decode cX2_darkOf 23 = .ok (.ireturn, 1) := by decide +kernel
set_option maxRecDepth 20000 in
theorem ggX2_longest_X2_isIn : GoodIn wsX2_longest wsX2_isIn := goodIn_r _ [5] (by decide +kernel) (by decide +kernel)
set_option maxRecDepth 20000 in
theorem gX2_longest_X2_isIn : GoodIn wsX2_longest (va_wsS RX2 40 yX2_isIn wsX2_isIn) := goodIn_app (goodIn_of _ (by decide +kernel)) ggX2_longest_X2_isIn
set_option maxRecDepth 20000 in
theorem ggX2_longest_X2_no : GoodIn wsX2_longest wsX2_no := goodIn_r _ [9, 10, 38, 39, 40, 41, 42, 43, 44, 45, 46, 47, 48, 49, 50] (by decide +kernel) (by decide +kernel)
set_option maxRecDepth 20000 in
theorem gX2_longest_X2_no : GoodIn wsX2_longest (wsV RX2 36 RX2 yX2_no wsX2_no) := goodIn_app (goodIn_of _ (by decide +kernel)) ggX2_longest_X2_no
set_option maxRecDepth 20000 in
theorem ggX2_longest_X2_boxed : GoodIn wsX2_longest wsX2_boxed := goodIn_r _ [14, 1, 15, 16, 4, 17, 18, 19, 20, 38, 39, 40, 41, 42, 43, 44, 45, 46, 47, 48, 49, 50] (by decide +kernel) (by decide +kernel)
set_option maxRecDepth 20000 in
theorem gX2_longest_X2_boxed : GoodIn wsX2_longest (wsV RX2 171 RX2 yX2_boxed wsX2_boxed) := goodIn_app (goodIn_of _ (by decide +kernel)) ggX2_longest_X2_boxed
set_option maxRecDepth 20000 in
theorem ggX2_longest_X2_costOf : GoodIn wsX2_longest wsX2_costOf := goodIn_r _ [24, 1, 25, 26, 4, 27, 18, 19, 20, 28, 29, 30, 38, 39, 40, 41, 42, 43, 44, 45, 46, 47, 48, 49, 50] (by decide +kernel) (by decide +kernel)
set_option maxRecDepth 20000 in
theorem gX2_longest_X2_costOf : GoodIn wsX2_longest (wsV RX2 177 RX2 yX2_costOf wsX2_costOf) := goodIn_app (goodIn_of _ (by decide +kernel)) ggX2_longest_X2_costOf
set_option maxRecDepth 20000 in
theorem ggX2_longest_X2_darkOf : GoodIn wsX2_longest wsX2_darkOf := goodIn_r _ [34, 1, 18, 19, 4, 20, 35, 36, 37, 38, 39, 40, 41, 42, 43, 44, 45, 46, 47, 48, 49, 50] (by decide +kernel) (by decide +kernel)
set_option maxRecDepth 20000 in
theorem gX2_longest_X2_darkOf : GoodIn wsX2_longest (wsV RX2 190 RX2 yX2_darkOf wsX2_darkOf) := goodIn_app (goodIn_of _ (by decide +kernel)) ggX2_longest_X2_darkOf
theorem dX2_longest_0 : decode cX2_longest 0 = .ok (.iload_n 1, 1) := by decide +kernel
theorem dX2_longest_1 : decode cX2_longest 1 = .ok (.iconst 0, 1) := by decide +kernel
theorem dX2_longest_2 : decode cX2_longest 2 = .ok (.iconst 1, 1) := by decide +kernel
theorem dX2_longest_3 : decode cX2_longest 3 = .ok (.invokestatic 40, 3) := by decide +kernel
theorem dX2_longest_6 : decode cX2_longest 6 = .ok (.ifCond .ne 10, 3) := by decide +kernel
theorem dX2_longest_9 : decode cX2_longest 9 = .ok (.aload_n 0, 1) := by decide +kernel
theorem dX2_longest_10 : decode cX2_longest 10 = .ok (.bipush (-2), 2) := by decide +kernel
theorem dX2_longest_12 : decode cX2_longest 12 = .ok (.invokevirtual 36, 3) := by decide +kernel
theorem dX2_longest_15 : decode cX2_longest 15 = .ok (.ireturn, 1) := by decide +kernel
theorem dX2_longest_16 : decode cX2_longest 16 = .ok (.iload_n 1, 1) := by decide +kernel
theorem dX2_longest_17 : decode cX2_longest 17 = .ok (.iconst 1, 1) := by decide +kernel
theorem dX2_longest_18 : decode cX2_longest 18 = .ok (.if_icmp .ne 12, 3) := by decide +kernel
theorem dX2_longest_21 : decode cX2_longest 21 = .ok (.aload_n 0, 1) := by decide +kernel
theorem dX2_longest_22 : decode cX2_longest 22 = .ok (.aload_n 0, 1) := by decide +kernel
theorem dX2_longest_23 : decode cX2_longest 23 = .ok (.invokevirtual 171, 3) := by decide +kernel
theorem dX2_longest_26 : decode cX2_longest 26 = .ok (.invokevirtual 177, 3) := by decide +kernel
theorem dX2_longest_29 : decode cX2_longest 29 = .ok (.ireturn, 1) := by decide +kernel
theorem dX2_longest_30 : decode cX2_longest 30 = .ok (.bipush (-9), 2) := by decide +kernel
theorem dX2_longest_32 : decode cX2_longest 32 = .ok (.istore_n 2, 1) := by decide +kernel
theorem dX2_longest_33 : decode cX2_longest 33 = .ok (.iconst 0, 1) := by decide +kernel
theorem dX2_longest_34 : decode cX2_longest 34 = .ok (.istore_n 3, 1) := by decide +kernel
theorem dX2_longest_35 : decode cX2_longest 35 = .ok (.iload_n 3, 1) := by decide +kernel
theorem dX2_longest_36 : decode cX2_longest 36 = .ok (.aload_n 0, 1) := by decide +kernel
theorem dX2_longest_37 : decode cX2_longest 37 = .ok (.getfield 9, 3) := by decide +kernel
theorem dX2_longest_40 : decode cX2_longest 40 = .ok (.iconst 0, 1) := by decide +kernel
theorem dX2_longest_41 : decode cX2_longest 41 = .ok (.iaload, 1) := by decide +kernel
theorem dX2_longest_42 : decode cX2_longest 42 = .ok (.if_icmp .ge 28, 3) := by decide +kernel
theorem dX2_longest_45 : decode cX2_longest 45 = .ok (.iload_n 2, 1) := by decide +kernel
theorem dX2_longest_46 : decode cX2_longest 46 = .ok (.ifCond .lt 16, 3) := by decide +kernel
theorem dX2_longest_49 : decode cX2_longest 49 = .ok (.aload_n 0, 1) := by decide +kernel
theorem dX2_longest_50 : decode cX2_longest 50 = .ok (.iload_n 3, 1) := by decide +kernel
theorem dX2_longest_51 : decode cX2_longest 51 = .ok (.invokevirtual 190, 3) := by decide +kernel
theorem dX2_longest_54 : decode cX2_longest 54 = .ok (.aload_n 0, 1) := by decide +kernel
theorem dX2_longest_55 : decode cX2_longest 55 = .ok (.iload_n 2, 1) := by decide +kernel
theorem dX2_longest_56 : decode cX2_longest 56 = .ok (.invokevirtual 190, 3) := by decide +kernel
theorem dX2_longest_59 : decode cX2_longest 59 = .ok (.if_icmp .le 5, 3) := by decide +kernel
theorem dX2_longest_62 : decode cX2_longest 62 = .ok (.iload_n 3, 1) := by decide +kernel
theorem dX2_longest_63 : decode cX2_longest 63 = .ok (.istore_n 2, 1) := by decide +kernel
theorem dX2_longest_64 : decode cX2_longest 64 = .ok (.iinc 3 1, 3) := by decide +kernel
theorem dX2_longest_67 : decode cX2_longest 67 = .ok (.goto (-32), 3) := by decide +kernel
theorem dX2_longest_70 : decode cX2_longest 70 = .ok (.iload_n 2, 1) := by decide +kernel
theorem dX2_longest_71 : decode cX2_longest 71 = .ok (.ireturn, 1) := by decide +kernel
set_option maxRecDepth 20000 in
theorem ggX2_seen_X2_isIn : GoodIn wsX2_seen wsX2_isIn := goodIn_r _ [5] (by decide +kernel) (by decide +kernel)
set_option maxRecDepth 20000 in
theorem gX2_seen_X2_isIn : GoodIn wsX2_seen (va_wsS RX2 40 yX2_isIn wsX2_isIn) := goodIn_app (goodIn_of _ (by decide +kernel)) ggX2_seen_X2_isIn
set_option maxRecDepth 20000 in
theorem ggX2_seen_X2_no : GoodIn wsX2_seen wsX2_no := goodIn_r _ [9, 10, 35, 36, 37, 38, 39, 40, 41, 42, 43, 44, 45, 46, 47] (by decide +kernel) (by decide +kernel)
set_option maxRecDepth 20000 in
theorem gX2_seen_X2_no : GoodIn wsX2_seen (wsV RX2 36 RX2 yX2_no wsX2_no) := goodIn_app (goodIn_of _ (by decide +kernel)) ggX2_seen_X2_no
set_option maxRecDepth 20000 in
theorem ggX2_seen_X2_readers : GoodIn wsX2_seen wsX2_readers := goodIn_r _ [13, 14, 15, 4, 16, 17, 18, 19, 20, 21, 22, 23, 24, 25, 26, 27, 28, 29, 30, 31] (by decide +kernel) (by decide +kernel)
set_option maxRecDepth 20000 in
theorem gX2_seen_X2_readers : GoodIn wsX2_seen (va_wsS RX2 144 yX2_readers wsX2_readers) := goodIn_app (goodIn_of _ (by decide +kernel)) ggX2_seen_X2_readers
set_option maxRecDepth 20000 in
theorem ggX2_seen_X2_bits : GoodIn wsX2_seen wsX2_bits := goodIn_r _ [34] (by decide +kernel) (by decide +kernel)
set_option maxRecDepth 20000 in
theorem gX2_seen_X2_bits : GoodIn wsX2_seen (va_wsS RX2 94 yX2_bits wsX2_bits) := goodIn_app (goodIn_of _ (by decide +kernel)) ggX2_seen_X2_bits
theorem dX2_seen_0 : decode cX2_seen 0 = .ok (.iload_n 1, 1) := by decide +kernel
theorem dX2_seen_1 : decode cX2_seen 1 = .ok (.iconst 0, 1) := by decide +kernel
theorem dX2_seen_2 : decode cX2_seen 2 = .ok (.iconst 1, 1) := by decide +kernel
theorem dX2_seen_3 : decode cX2_seen 3 = .ok (.invokestatic 40, 3) := by decide +kernel
theorem dX2_seen_6 : decode cX2_seen 6 = .ok (.ifCond .ne 10, 3) := by decide +kernel
theorem dX2_seen_9 : decode cX2_seen 9 = .ok (.aload_n 0, 1) := by decide +kernel
theorem dX2_seen_10 : decode cX2_seen 10 = .ok (.bipush (-2), 2) := by decide +kernel
theorem dX2_seen_12 : decode cX2_seen 12 = .ok (.invokevirtual 36, 3) := by decide +kernel
theorem dX2_seen_15 : decode cX2_seen 15 = .ok (.ireturn, 1) := by decide +kernel
theorem dX2_seen_16 : decode cX2_seen 16 = .ok (.bipush (-9), 2) := by decide +kernel
theorem dX2_seen_18 : decode cX2_seen 18 = .ok (.istore_n 2, 1) := by decide +kernel
theorem dX2_seen_19 : decode cX2_seen 19 = .ok (.iconst 0, 1) := by decide +kernel
theorem dX2_seen_20 : decode cX2_seen 20 = .ok (.istore_n 3, 1) := by decide +kernel
theorem dX2_seen_21 : decode cX2_seen 21 = .ok (.iload_n 3, 1) := by decide +kernel
theorem dX2_seen_22 : decode cX2_seen 22 = .ok (.aload_n 0, 1) := by decide +kernel
theorem dX2_seen_23 : decode cX2_seen 23 = .ok (.getfield 9, 3) := by decide +kernel
theorem dX2_seen_26 : decode cX2_seen 26 = .ok (.iconst 0, 1) := by decide +kernel
theorem dX2_seen_27 : decode cX2_seen 27 = .ok (.iaload, 1) := by decide +kernel
theorem dX2_seen_28 : decode cX2_seen 28 = .ok (.if_icmp .ge 40, 3) := by decide +kernel
theorem dX2_seen_31 : decode cX2_seen 31 = .ok (.iload_n 2, 1) := by decide +kernel
theorem dX2_seen_32 : decode cX2_seen 32 = .ok (.ifCond .lt 28, 3) := by decide +kernel
theorem dX2_seen_35 : decode cX2_seen 35 = .ok (.aload_n 0, 1) := by decide +kernel
theorem dX2_seen_36 : decode cX2_seen 36 = .ok (.getfield 9, 3) := by decide +kernel
theorem dX2_seen_39 : decode cX2_seen 39 = .ok (.iload_n 3, 1) := by decide +kernel
theorem dX2_seen_40 : decode cX2_seen 40 = .ok (.invokestatic 144, 3) := by decide +kernel
theorem dX2_seen_43 : decode cX2_seen 43 = .ok (.invokestatic 94, 3) := by decide +kernel
theorem dX2_seen_46 : decode cX2_seen 46 = .ok (.aload_n 0, 1) := by decide +kernel
theorem dX2_seen_47 : decode cX2_seen 47 = .ok (.getfield 9, 3) := by decide +kernel
theorem dX2_seen_50 : decode cX2_seen 50 = .ok (.iload_n 2, 1) := by decide +kernel
theorem dX2_seen_51 : decode cX2_seen 51 = .ok (.invokestatic 144, 3) := by decide +kernel
theorem dX2_seen_54 : decode cX2_seen 54 = .ok (.invokestatic 94, 3) := by decide +kernel
theorem dX2_seen_57 : decode cX2_seen 57 = .ok (.if_icmp .le 5, 3) := by decide +kernel
theorem dX2_seen_60 : decode cX2_seen 60 = .ok (.iload_n 3, 1) := by decide +kernel
theorem dX2_seen_61 : decode cX2_seen 61 = .ok (.istore_n 2, 1) := by decide +kernel
theorem dX2_seen_62 : decode cX2_seen 62 = .ok (.iinc 3 1, 3) := by decide +kernel
theorem dX2_seen_65 : decode cX2_seen 65 = .ok (.goto (-44), 3) := by decide +kernel
theorem dX2_seen_68 : decode cX2_seen 68 = .ok (.iload_n 1, 1) := by decide +kernel
theorem dX2_seen_69 : decode cX2_seen 69 = .ok (.iconst 1, 1) := by decide +kernel
theorem dX2_seen_70 : decode cX2_seen 70 = .ok (.if_icmp .ne 7, 3) := by decide +kernel
theorem dX2_seen_73 : decode cX2_seen 73 = .ok (.iload_n 2, 1) := by decide +kernel
theorem dX2_seen_74 : decode cX2_seen 74 = .ok (.goto 22, 3) := by decide +kernel
theorem dX2_seen_77 : decode cX2_seen 77 = .ok (.iload_n 2, 1) := by decide +kernel
theorem dX2_seen_78 : decode cX2_seen 78 = .ok (.ifCond .ge 7, 3) := by decide +kernel
theorem dX2_seen_81 : decode cX2_seen 81 = .ok (.iconst 0, 1) := by decide +kernel
theorem dX2_seen_82 : decode cX2_seen 82 = .ok (.goto 14, 3) := by decide +kernel
theorem dX2_seen_85 : decode cX2_seen 85 = .ok (.aload_n 0, 1) := by decide +kernel
theorem dX2_seen_86 : decode cX2_seen 86 = .ok (.getfield 9, 3) := by decide +kernel
theorem dX2_seen_89 : decode cX2_seen 89 = .ok (.iload_n 2, 1) := by decide +kernel
theorem dX2_seen_90 : decode cX2_seen 90 = .ok (.invokestatic 144, 3) := by decide +kernel
theorem dX2_seen_93 : decode cX2_seen 93 = .ok (.invokestatic 94, 3) := by decide +kernel
theorem dX2_seen_96 : decode cX2_seen 96 = .ok (.ireturn, 1) := by decide +kernel
set_option maxRecDepth 20000 in
theorem ggX2_manyWith_X2_wordsOf : GoodIn wsX2_manyWith wsX2_wordsOf := goodIn_r _ [5, 6, 7, 4, 8] (by decide +kernel) (by decide +kernel)
set_option maxRecDepth 20000 in
theorem gX2_manyWith_X2_wordsOf : GoodIn wsX2_manyWith (va_wsS RX2 91 yX2_wordsOf wsX2_wordsOf) := goodIn_app (goodIn_of _ (by decide +kernel)) ggX2_manyWith_X2_wordsOf
set_option maxRecDepth 20000 in
theorem ggX2_manyWith_X2_has : GoodIn wsX2_manyWith wsX2_has := goodIn_r _ [11] (by decide +kernel) (by decide +kernel)
set_option maxRecDepth 20000 in
theorem gX2_manyWith_X2_has : GoodIn wsX2_manyWith (va_wsS RX2 65 yX2_has wsX2_has) := goodIn_app (goodIn_of _ (by decide +kernel)) ggX2_manyWith_X2_has
theorem dX2_manyWith_0 : decode cX2_manyWith 0 = .ok (.iconst 0, 1) := by decide +kernel
theorem dX2_manyWith_1 : decode cX2_manyWith 1 = .ok (.istore_n 2, 1) := by decide +kernel
theorem dX2_manyWith_2 : decode cX2_manyWith 2 = .ok (.iconst 0, 1) := by decide +kernel
theorem dX2_manyWith_3 : decode cX2_manyWith 3 = .ok (.istore_n 3, 1) := by decide +kernel
theorem dX2_manyWith_4 : decode cX2_manyWith 4 = .ok (.iload_n 3, 1) := by decide +kernel
theorem dX2_manyWith_5 : decode cX2_manyWith 5 = .ok (.aload_n 0, 1) := by decide +kernel
theorem dX2_manyWith_6 : decode cX2_manyWith 6 = .ok (.getfield 9, 3) := by decide +kernel
theorem dX2_manyWith_9 : decode cX2_manyWith 9 = .ok (.iconst 1, 1) := by decide +kernel
theorem dX2_manyWith_10 : decode cX2_manyWith 10 = .ok (.iaload, 1) := by decide +kernel
theorem dX2_manyWith_11 : decode cX2_manyWith 11 = .ok (.if_icmp .ge 32, 3) := by decide +kernel
theorem dX2_manyWith_14 : decode cX2_manyWith 14 = .ok (.iload_n 2, 1) := by decide +kernel
theorem dX2_manyWith_15 : decode cX2_manyWith 15 = .ok (.aload_n 0, 1) := by decide +kernel
theorem dX2_manyWith_16 : decode cX2_manyWith 16 = .ok (.getfield 9, 3) := by decide +kernel
theorem dX2_manyWith_19 : decode cX2_manyWith 19 = .ok (.iload_n 3, 1) := by decide +kernel
theorem dX2_manyWith_20 : decode cX2_manyWith 20 = .ok (.invokestatic 91, 3) := by decide +kernel
theorem dX2_manyWith_23 : decode cX2_manyWith 23 = .ok (.iload_n 1, 1) := by decide +kernel
theorem dX2_manyWith_24 : decode cX2_manyWith 24 = .ok (.invokestatic 65, 3) := by decide +kernel
theorem dX2_manyWith_27 : decode cX2_manyWith 27 = .ok (.ifCond .eq 7, 3) := by decide +kernel
theorem dX2_manyWith_30 : decode cX2_manyWith 30 = .ok (.iconst 1, 1) := by decide +kernel
theorem dX2_manyWith_31 : decode cX2_manyWith 31 = .ok (.goto 4, 3) := by decide +kernel
theorem dX2_manyWith_34 : decode cX2_manyWith 34 = .ok (.iconst 0, 1) := by decide +kernel
theorem dX2_manyWith_35 : decode cX2_manyWith 35 = .ok (.iadd, 1) := by decide +kernel
theorem dX2_manyWith_36 : decode cX2_manyWith 36 = .ok (.istore_n 2, 1) := by decide +kernel
theorem dX2_manyWith_37 : decode cX2_manyWith 37 = .ok (.iinc 3 1, 3) := by decide +kernel
theorem dX2_manyWith_40 : decode cX2_manyWith 40 = .ok (.goto (-36), 3) := by decide +kernel
theorem dX2_manyWith_43 : decode cX2_manyWith 43 = .ok (.iload_n 2, 1) := by decide +kernel
theorem dX2_manyWith_44 : decode cX2_manyWith 44 = .ok (.ireturn, 1) := by decide +kernel
set_option maxRecDepth 20000 in
theorem ggX2_words_X2_isIn : GoodIn wsX2_words wsX2_isIn := goodIn_r _ [5] (by decide +kernel) (by decide +kernel)
set_option maxRecDepth 20000 in
theorem gX2_words_X2_isIn : GoodIn wsX2_words (va_wsS RX2 40 yX2_isIn wsX2_isIn) := goodIn_app (goodIn_of _ (by decide +kernel)) ggX2_words_X2_isIn
set_option maxRecDepth 20000 in
theorem ggX2_words_X2_no : GoodIn wsX2_words wsX2_no := goodIn_r _ [9, 10, 27, 28, 29, 30, 31, 32, 33, 34, 35, 36, 37, 38, 39] (by decide +kernel) (by decide +kernel)
set_option maxRecDepth 20000 in
theorem gX2_words_X2_no : GoodIn wsX2_words (wsV RX2 36 RX2 yX2_no wsX2_no) := goodIn_app (goodIn_of _ (by decide +kernel)) ggX2_words_X2_no
set_option maxRecDepth 20000 in
theorem ggX2_words_X2_ofR : GoodIn wsX2_words wsX2_ofR := goodIn_r _ [13] (by decide +kernel) (by decide +kernel)
set_option maxRecDepth 20000 in
theorem gX2_words_X2_ofR : GoodIn wsX2_words (va_wsS RX2 44 yX2_ofR wsX2_ofR) := goodIn_app (goodIn_of _ (by decide +kernel)) ggX2_words_X2_ofR
set_option maxRecDepth 20000 in
theorem ggX2_words_X2_wordsOf : GoodIn wsX2_words wsX2_wordsOf := goodIn_r _ [16, 17, 18, 4, 19] (by decide +kernel) (by decide +kernel)
set_option maxRecDepth 20000 in
theorem gX2_words_X2_wordsOf : GoodIn wsX2_words (va_wsS RX2 91 yX2_wordsOf wsX2_wordsOf) := goodIn_app (goodIn_of _ (by decide +kernel)) ggX2_words_X2_wordsOf
set_option maxRecDepth 20000 in
theorem ggX2_words_X2_manyWith : GoodIn wsX2_words wsX2_manyWith := goodIn_r _ [23, 1, 14, 15, 4, 16, 17, 18, 19, 24, 25, 26, 27, 28, 29, 30, 31, 32, 33, 34, 35, 36, 37, 38, 39] (by decide +kernel) (by decide +kernel)
set_option maxRecDepth 20000 in
theorem gX2_words_X2_manyWith : GoodIn wsX2_words (wsV RX2 193 RX2 yX2_manyWith wsX2_manyWith) := goodIn_app (goodIn_of _ (by decide +kernel)) ggX2_words_X2_manyWith
theorem dX2_words_0 : decode cX2_words 0 = .ok (.iload_n 1, 1) := by decide +kernel
theorem dX2_words_1 : decode cX2_words 1 = .ok (.iconst 0, 1) := by decide +kernel
theorem dX2_words_2 : decode cX2_words 2 = .ok (.iconst 2, 1) := by decide +kernel
theorem dX2_words_3 : decode cX2_words 3 = .ok (.invokestatic 40, 3) := by decide +kernel
theorem dX2_words_6 : decode cX2_words 6 = .ok (.ifCond .ne 10, 3) := by decide +kernel
theorem dX2_words_9 : decode cX2_words 9 = .ok (.aload_n 0, 1) := by decide +kernel
theorem dX2_words_10 : decode cX2_words 10 = .ok (.bipush (-2), 2) := by decide +kernel
theorem dX2_words_12 : decode cX2_words 12 = .ok (.invokevirtual 36, 3) := by decide +kernel
theorem dX2_words_15 : decode cX2_words 15 = .ok (.ireturn, 1) := by decide +kernel
theorem dX2_words_16 : decode cX2_words 16 = .ok (.bipush 63, 2) := by decide +kernel
theorem dX2_words_18 : decode cX2_words 18 = .ok (.istore_n 2, 1) := by decide +kernel
theorem dX2_words_19 : decode cX2_words 19 = .ok (.bipush 63, 2) := by decide +kernel
theorem dX2_words_21 : decode cX2_words 21 = .ok (.istore_n 3, 1) := by decide +kernel
theorem dX2_words_22 : decode cX2_words 22 = .ok (.iconst 0, 1) := by decide +kernel
theorem dX2_words_23 : decode cX2_words 23 = .ok (.istore 4, 2) := by decide +kernel
theorem dX2_words_25 : decode cX2_words 25 = .ok (.iconst 0, 1) := by decide +kernel
theorem dX2_words_26 : decode cX2_words 26 = .ok (.istore 5, 2) := by decide +kernel
theorem dX2_words_28 : decode cX2_words 28 = .ok (.iload 5, 2) := by decide +kernel
theorem dX2_words_30 : decode cX2_words 30 = .ok (.aload_n 0, 1) := by decide +kernel
theorem dX2_words_31 : decode cX2_words 31 = .ok (.getfield 9, 3) := by decide +kernel
theorem dX2_words_34 : decode cX2_words 34 = .ok (.iconst 0, 1) := by decide +kernel
theorem dX2_words_35 : decode cX2_words 35 = .ok (.iaload, 1) := by decide +kernel
theorem dX2_words_36 : decode cX2_words 36 = .ok (.if_icmp .ge 27, 3) := by decide +kernel
theorem dX2_words_39 : decode cX2_words 39 = .ok (.iload_n 2, 1) := by decide +kernel
theorem dX2_words_40 : decode cX2_words 40 = .ok (.iconst 1, 1) := by decide +kernel
theorem dX2_words_41 : decode cX2_words 41 = .ok (.aload_n 0, 1) := by decide +kernel
theorem dX2_words_42 : decode cX2_words 42 = .ok (.getfield 9, 3) := by decide +kernel
theorem dX2_words_45 : decode cX2_words 45 = .ok (.iload 5, 2) := by decide +kernel
theorem dX2_words_47 : decode cX2_words 47 = .ok (.iconst 2, 1) := by decide +kernel
theorem dX2_words_48 : decode cX2_words 48 = .ok (.invokestatic 44, 3) := by decide +kernel
theorem dX2_words_51 : decode cX2_words 51 = .ok (.iaload, 1) := by decide +kernel
theorem dX2_words_52 : decode cX2_words 52 = .ok (.ishl, 1) := by decide +kernel
theorem dX2_words_53 : decode cX2_words 53 = .ok (.iconst (-1), 1) := by decide +kernel
theorem dX2_words_54 : decode cX2_words 54 = .ok (.ixor, 1) := by decide +kernel
theorem dX2_words_55 : decode cX2_words 55 = .ok (.iand, 1) := by decide +kernel
theorem dX2_words_56 : decode cX2_words 56 = .ok (.istore_n 2, 1) := by decide +kernel
theorem dX2_words_57 : decode cX2_words 57 = .ok (.iinc 5 1, 3) := by decide +kernel
theorem dX2_words_60 : decode cX2_words 60 = .ok (.goto (-32), 3) := by decide +kernel
theorem dX2_words_63 : decode cX2_words 63 = .ok (.iconst 0, 1) := by decide +kernel
theorem dX2_words_64 : decode cX2_words 64 = .ok (.istore 5, 2) := by decide +kernel
theorem dX2_words_66 : decode cX2_words 66 = .ok (.iload 5, 2) := by decide +kernel
theorem dX2_words_68 : decode cX2_words 68 = .ok (.aload_n 0, 1) := by decide +kernel
theorem dX2_words_69 : decode cX2_words 69 = .ok (.getfield 9, 3) := by decide +kernel
theorem dX2_words_72 : decode cX2_words 72 = .ok (.iconst 1, 1) := by decide +kernel
theorem dX2_words_73 : decode cX2_words 73 = .ok (.iaload, 1) := by decide +kernel
theorem dX2_words_74 : decode cX2_words 74 = .ok (.if_icmp .ge 21, 3) := by decide +kernel
theorem dX2_words_77 : decode cX2_words 77 = .ok (.iload_n 3, 1) := by decide +kernel
theorem dX2_words_78 : decode cX2_words 78 = .ok (.aload_n 0, 1) := by decide +kernel
theorem dX2_words_79 : decode cX2_words 79 = .ok (.getfield 9, 3) := by decide +kernel
theorem dX2_words_82 : decode cX2_words 82 = .ok (.iload 5, 2) := by decide +kernel
theorem dX2_words_84 : decode cX2_words 84 = .ok (.invokestatic 91, 3) := by decide +kernel
theorem dX2_words_87 : decode cX2_words 87 = .ok (.iand, 1) := by decide +kernel
theorem dX2_words_88 : decode cX2_words 88 = .ok (.istore_n 3, 1) := by decide +kernel
theorem dX2_words_89 : decode cX2_words 89 = .ok (.iinc 5 1, 3) := by decide +kernel
theorem dX2_words_92 : decode cX2_words 92 = .ok (.goto (-26), 3) := by decide +kernel
theorem dX2_words_95 : decode cX2_words 95 = .ok (.iconst 0, 1) := by decide +kernel
theorem dX2_words_96 : decode cX2_words 96 = .ok (.istore 5, 2) := by decide +kernel
theorem dX2_words_98 : decode cX2_words 98 = .ok (.iload 5, 2) := by decide +kernel
theorem dX2_words_100 : decode cX2_words 100 = .ok (.bipush 6, 2) := by decide +kernel
theorem dX2_words_102 : decode cX2_words 102 = .ok (.if_icmp .ge 28, 3) := by decide +kernel
theorem dX2_words_105 : decode cX2_words 105 = .ok (.aload_n 0, 1) := by decide +kernel
theorem dX2_words_106 : decode cX2_words 106 = .ok (.iload 5, 2) := by decide +kernel
theorem dX2_words_108 : decode cX2_words 108 = .ok (.invokevirtual 193, 3) := by decide +kernel
theorem dX2_words_111 : decode cX2_words 111 = .ok (.aload_n 0, 1) := by decide +kernel
theorem dX2_words_112 : decode cX2_words 112 = .ok (.iload 4, 2) := by decide +kernel
theorem dX2_words_114 : decode cX2_words 114 = .ok (.invokevirtual 193, 3) := by decide +kernel
theorem dX2_words_117 : decode cX2_words 117 = .ok (.if_icmp .ge 7, 3) := by decide +kernel
theorem dX2_words_120 : decode cX2_words 120 = .ok (.iload 5, 2) := by decide +kernel
theorem dX2_words_122 : decode cX2_words 122 = .ok (.istore 4, 2) := by decide +kernel
theorem dX2_words_124 : decode cX2_words 124 = .ok (.iinc 5 1, 3) := by decide +kernel
theorem dX2_words_127 : decode cX2_words 127 = .ok (.goto (-29), 3) := by decide +kernel
theorem dX2_words_130 : decode cX2_words 130 = .ok (.iload_n 1, 1) := by decide +kernel
theorem dX2_words_131 : decode cX2_words 131 = .ok (.ifCond .ne 7, 3) := by decide +kernel
theorem dX2_words_134 : decode cX2_words 134 = .ok (.iload_n 2, 1) := by decide +kernel
theorem dX2_words_135 : decode cX2_words 135 = .ok (.goto 14, 3) := by decide +kernel
theorem dX2_words_138 : decode cX2_words 138 = .ok (.iload_n 1, 1) := by decide +kernel
theorem dX2_words_139 : decode cX2_words 139 = .ok (.iconst 1, 1) := by decide +kernel
theorem dX2_words_140 : decode cX2_words 140 = .ok (.if_icmp .ne 7, 3) := by decide +kernel
theorem dX2_words_143 : decode cX2_words 143 = .ok (.iload_n 3, 1) := by decide +kernel
theorem dX2_words_144 : decode cX2_words 144 = .ok (.goto 5, 3) := by decide +kernel
theorem dX2_words_147 : decode cX2_words 147 = .ok (.iload 4, 2) := by decide +kernel
theorem dX2_words_149 : decode cX2_words 149 = .ok (.ireturn, 1) := by decide +kernel
set_option maxRecDepth 20000 in
theorem ggX2_near_X2_ofP : GoodIn wsX2_near wsX2_ofP := goodIn_r _ [5] (by decide +kernel) (by decide +kernel)
set_option maxRecDepth 20000 in
theorem gX2_near_X2_ofP : GoodIn wsX2_near (va_wsS RX2 48 yX2_ofP wsX2_ofP) := goodIn_app (goodIn_of _ (by decide +kernel)) ggX2_near_X2_ofP
set_option maxRecDepth 20000 in
theorem ggX2_near_X2_apart : GoodIn wsX2_near wsX2_apart := goodIn_r _ [8] (by decide +kernel) (by decide +kernel)
set_option maxRecDepth 20000 in
theorem gX2_near_X2_apart : GoodIn wsX2_near (va_wsS RX2 55 yX2_apart wsX2_apart) := goodIn_app (goodIn_of _ (by decide +kernel)) ggX2_near_X2_apart
theorem dX2_near_0 : decode cX2_near 0 = .ok (.bipush (-9), 2) := by decide +kernel
theorem dX2_near_2 : decode cX2_near 2 = .ok (.istore_n 1, 1) := by decide +kernel
theorem dX2_near_3 : decode cX2_near 3 = .ok (.iconst 0, 1) := by decide +kernel
theorem dX2_near_4 : decode cX2_near 4 = .ok (.istore_n 2, 1) := by decide +kernel
theorem dX2_near_5 : decode cX2_near 5 = .ok (.iload_n 2, 1) := by decide +kernel
theorem dX2_near_6 : decode cX2_near 6 = .ok (.aload_n 0, 1) := by decide +kernel
theorem dX2_near_7 : decode cX2_near 7 = .ok (.getfield 9, 3) := by decide +kernel
theorem dX2_near_10 : decode cX2_near 10 = .ok (.iconst 1, 1) := by decide +kernel
theorem dX2_near_11 : decode cX2_near 11 = .ok (.iaload, 1) := by decide +kernel
theorem dX2_near_12 : decode cX2_near 12 = .ok (.if_icmp .ge 48, 3) := by decide +kernel
theorem dX2_near_15 : decode cX2_near 15 = .ok (.iload_n 1, 1) := by decide +kernel
theorem dX2_near_16 : decode cX2_near 16 = .ok (.ifCond .lt 36, 3) := by decide +kernel
theorem dX2_near_19 : decode cX2_near 19 = .ok (.aload_n 0, 1) := by decide +kernel
theorem dX2_near_20 : decode cX2_near 20 = .ok (.getfield 9, 3) := by decide +kernel
theorem dX2_near_23 : decode cX2_near 23 = .ok (.iload_n 2, 1) := by decide +kernel
theorem dX2_near_24 : decode cX2_near 24 = .ok (.iconst 0, 1) := by decide +kernel
theorem dX2_near_25 : decode cX2_near 25 = .ok (.invokestatic 48, 3) := by decide +kernel
theorem dX2_near_28 : decode cX2_near 28 = .ok (.iaload, 1) := by decide +kernel
theorem dX2_near_29 : decode cX2_near 29 = .ok (.bipush 10, 2) := by decide +kernel
theorem dX2_near_31 : decode cX2_near 31 = .ok (.invokestatic 55, 3) := by decide +kernel
theorem dX2_near_34 : decode cX2_near 34 = .ok (.aload_n 0, 1) := by decide +kernel
theorem dX2_near_35 : decode cX2_near 35 = .ok (.getfield 9, 3) := by decide +kernel
theorem dX2_near_38 : decode cX2_near 38 = .ok (.iload_n 1, 1) := by decide +kernel
theorem dX2_near_39 : decode cX2_near 39 = .ok (.iconst 0, 1) := by decide +kernel
theorem dX2_near_40 : decode cX2_near 40 = .ok (.invokestatic 48, 3) := by decide +kernel
theorem dX2_near_43 : decode cX2_near 43 = .ok (.iaload, 1) := by decide +kernel
theorem dX2_near_44 : decode cX2_near 44 = .ok (.bipush 10, 2) := by decide +kernel
theorem dX2_near_46 : decode cX2_near 46 = .ok (.invokestatic 55, 3) := by decide +kernel
theorem dX2_near_49 : decode cX2_near 49 = .ok (.if_icmp .ge 5, 3) := by decide +kernel
theorem dX2_near_52 : decode cX2_near 52 = .ok (.iload_n 2, 1) := by decide +kernel
theorem dX2_near_53 : decode cX2_near 53 = .ok (.istore_n 1, 1) := by decide +kernel
theorem dX2_near_54 : decode cX2_near 54 = .ok (.iinc 2 1, 3) := by decide +kernel
theorem dX2_near_57 : decode cX2_near 57 = .ok (.goto (-52), 3) := by decide +kernel
theorem dX2_near_60 : decode cX2_near 60 = .ok (.iload_n 1, 1) := by decide +kernel
theorem dX2_near_61 : decode cX2_near 61 = .ok (.ireturn, 1) := by decide +kernel
set_option maxRecDepth 20000 in
theorem ggX2_alone_X2_wordsOf : GoodIn wsX2_alone wsX2_wordsOf := goodIn_r _ [5, 6, 7, 4, 8] (by decide +kernel) (by decide +kernel)
set_option maxRecDepth 20000 in
theorem gX2_alone_X2_wordsOf : GoodIn wsX2_alone (va_wsS RX2 91 yX2_wordsOf wsX2_wordsOf) := goodIn_app (goodIn_of _ (by decide +kernel)) ggX2_alone_X2_wordsOf
set_option maxRecDepth 20000 in
theorem ggX2_alone_X2_has : GoodIn wsX2_alone wsX2_has := goodIn_r _ [11] (by decide +kernel) (by decide +kernel)
set_option maxRecDepth 20000 in
theorem gX2_alone_X2_has : GoodIn wsX2_alone (va_wsS RX2 65 yX2_has wsX2_has) := goodIn_app (goodIn_of _ (by decide +kernel)) ggX2_alone_X2_has
set_option maxRecDepth 20000 in
theorem ggX2_alone_X2_manyWith : GoodIn wsX2_alone wsX2_manyWith := goodIn_r _ [15, 1, 2, 3, 4, 5, 6, 7, 8, 9, 10, 11, 16, 17, 18, 19, 20, 21, 22, 23, 24, 25, 26, 27, 28] (by decide +kernel) (by decide +kernel)
set_option maxRecDepth 20000 in
theorem gX2_alone_X2_manyWith : GoodIn wsX2_alone (wsV RX2 193 RX2 yX2_manyWith wsX2_manyWith) := goodIn_app (goodIn_of _ (by decide +kernel)) ggX2_alone_X2_manyWith
theorem dX2_alone_0 : decode cX2_alone 0 = .ok (.iconst 0, 1) := by decide +kernel
theorem dX2_alone_1 : decode cX2_alone 1 = .ok (.istore_n 1, 1) := by decide +kernel
theorem dX2_alone_2 : decode cX2_alone 2 = .ok (.iconst 0, 1) := by decide +kernel
theorem dX2_alone_3 : decode cX2_alone 3 = .ok (.istore_n 2, 1) := by decide +kernel
theorem dX2_alone_4 : decode cX2_alone 4 = .ok (.iload_n 2, 1) := by decide +kernel
theorem dX2_alone_5 : decode cX2_alone 5 = .ok (.aload_n 0, 1) := by decide +kernel
theorem dX2_alone_6 : decode cX2_alone 6 = .ok (.getfield 9, 3) := by decide +kernel
theorem dX2_alone_9 : decode cX2_alone 9 = .ok (.iconst 1, 1) := by decide +kernel
theorem dX2_alone_10 : decode cX2_alone 10 = .ok (.iaload, 1) := by decide +kernel
theorem dX2_alone_11 : decode cX2_alone 11 = .ok (.if_icmp .ge 57, 3) := by decide +kernel
theorem dX2_alone_14 : decode cX2_alone 14 = .ok (.iconst 0, 1) := by decide +kernel
theorem dX2_alone_15 : decode cX2_alone 15 = .ok (.istore_n 3, 1) := by decide +kernel
theorem dX2_alone_16 : decode cX2_alone 16 = .ok (.iload_n 3, 1) := by decide +kernel
theorem dX2_alone_17 : decode cX2_alone 17 = .ok (.bipush 6, 2) := by decide +kernel
theorem dX2_alone_19 : decode cX2_alone 19 = .ok (.if_icmp .ge 43, 3) := by decide +kernel
theorem dX2_alone_22 : decode cX2_alone 22 = .ok (.iload_n 1, 1) := by decide +kernel
theorem dX2_alone_23 : decode cX2_alone 23 = .ok (.aload_n 0, 1) := by decide +kernel
theorem dX2_alone_24 : decode cX2_alone 24 = .ok (.getfield 9, 3) := by decide +kernel
theorem dX2_alone_27 : decode cX2_alone 27 = .ok (.iload_n 2, 1) := by decide +kernel
theorem dX2_alone_28 : decode cX2_alone 28 = .ok (.invokestatic 91, 3) := by decide +kernel
theorem dX2_alone_31 : decode cX2_alone 31 = .ok (.iload_n 3, 1) := by decide +kernel
theorem dX2_alone_32 : decode cX2_alone 32 = .ok (.invokestatic 65, 3) := by decide +kernel
theorem dX2_alone_35 : decode cX2_alone 35 = .ok (.ifCond .eq 18, 3) := by decide +kernel
theorem dX2_alone_38 : decode cX2_alone 38 = .ok (.aload_n 0, 1) := by decide +kernel
theorem dX2_alone_39 : decode cX2_alone 39 = .ok (.iload_n 3, 1) := by decide +kernel
theorem dX2_alone_40 : decode cX2_alone 40 = .ok (.invokevirtual 193, 3) := by decide +kernel
theorem dX2_alone_43 : decode cX2_alone 43 = .ok (.iconst 1, 1) := by decide +kernel
theorem dX2_alone_44 : decode cX2_alone 44 = .ok (.if_icmp .ne 9, 3) := by decide +kernel
theorem dX2_alone_47 : decode cX2_alone 47 = .ok (.iconst 1, 1) := by decide +kernel
theorem dX2_alone_48 : decode cX2_alone 48 = .ok (.iload_n 2, 1) := by decide +kernel
theorem dX2_alone_49 : decode cX2_alone 49 = .ok (.ishl, 1) := by decide +kernel
theorem dX2_alone_50 : decode cX2_alone 50 = .ok (.goto 4, 3) := by decide +kernel
theorem dX2_alone_53 : decode cX2_alone 53 = .ok (.iconst 0, 1) := by decide +kernel
theorem dX2_alone_54 : decode cX2_alone 54 = .ok (.ior, 1) := by decide +kernel
theorem dX2_alone_55 : decode cX2_alone 55 = .ok (.istore_n 1, 1) := by decide +kernel
theorem dX2_alone_56 : decode cX2_alone 56 = .ok (.iinc 3 1, 3) := by decide +kernel
theorem dX2_alone_59 : decode cX2_alone 59 = .ok (.goto (-43), 3) := by decide +kernel
theorem dX2_alone_62 : decode cX2_alone 62 = .ok (.iinc 2 1, 3) := by decide +kernel
theorem dX2_alone_65 : decode cX2_alone 65 = .ok (.goto (-61), 3) := by decide +kernel
theorem dX2_alone_68 : decode cX2_alone 68 = .ok (.iload_n 1, 1) := by decide +kernel
theorem dX2_alone_69 : decode cX2_alone 69 = .ok (.ireturn, 1) := by decide +kernel
set_option maxRecDepth 20000 in
theorem ggX2_tell_X2_wholeOnes : GoodIn wsX2_tell wsX2_wholeOnes := goodIn_r _ [6, 7, 8, 5, 9, 10, 11, 12] (by decide +kernel) (by decide +kernel)
set_option maxRecDepth 20000 in
theorem gX2_tell_X2_wholeOnes : GoodIn wsX2_tell (va_wsS RX2 180 yX2_wholeOnes wsX2_wholeOnes) := goodIn_app (goodIn_of _ (by decide +kernel)) ggX2_tell_X2_wholeOnes
set_option maxRecDepth 20000 in
theorem ggX2_tell_X2_copies : GoodIn wsX2_tell wsX2_copies := goodIn_r _ [15] (by decide +kernel) (by decide +kernel)
set_option maxRecDepth 20000 in
theorem gX2_tell_X2_copies : GoodIn wsX2_tell (va_wsS RX2 134 yX2_copies wsX2_copies) := goodIn_app (goodIn_of _ (by decide +kernel)) ggX2_tell_X2_copies
set_option maxRecDepth 20000 in
theorem ggX2_tell_X2_ofP : GoodIn wsX2_tell wsX2_ofP := goodIn_r _ [12] (by decide +kernel) (by decide +kernel)
set_option maxRecDepth 20000 in
theorem gX2_tell_X2_ofP : GoodIn wsX2_tell (va_wsS RX2 48 yX2_ofP wsX2_ofP) := goodIn_app (goodIn_of _ (by decide +kernel)) ggX2_tell_X2_ofP
theorem dX2_tell_0 : decode cX2_tell 0 = .ok (.aload_n 0, 1) := by decide +kernel
theorem dX2_tell_1 : decode cX2_tell 1 = .ok (.getfield 9, 3) := by decide +kernel
theorem dX2_tell_4 : decode cX2_tell 4 = .ok (.invokestatic 180, 3) := by decide +kernel
theorem dX2_tell_7 : decode cX2_tell 7 = .ok (.istore_n 1, 1) := by decide +kernel
theorem dX2_tell_8 : decode cX2_tell 8 = .ok (.bipush (-9), 2) := by decide +kernel
theorem dX2_tell_10 : decode cX2_tell 10 = .ok (.istore_n 2, 1) := by decide +kernel
theorem dX2_tell_11 : decode cX2_tell 11 = .ok (.iconst 0, 1) := by decide +kernel
theorem dX2_tell_12 : decode cX2_tell 12 = .ok (.istore_n 3, 1) := by decide +kernel
theorem dX2_tell_13 : decode cX2_tell 13 = .ok (.iload_n 3, 1) := by decide +kernel
theorem dX2_tell_14 : decode cX2_tell 14 = .ok (.aload_n 0, 1) := by decide +kernel
theorem dX2_tell_15 : decode cX2_tell 15 = .ok (.getfield 9, 3) := by decide +kernel
theorem dX2_tell_18 : decode cX2_tell 18 = .ok (.iconst 1, 1) := by decide +kernel
theorem dX2_tell_19 : decode cX2_tell 19 = .ok (.iaload, 1) := by decide +kernel
theorem dX2_tell_20 : decode cX2_tell 20 = .ok (.if_icmp .ge 152, 3) := by decide +kernel
theorem dX2_tell_23 : decode cX2_tell 23 = .ok (.iconst 0, 1) := by decide +kernel
theorem dX2_tell_24 : decode cX2_tell 24 = .ok (.istore 4, 2) := by decide +kernel
theorem dX2_tell_26 : decode cX2_tell 26 = .ok (.iload 4, 2) := by decide +kernel
theorem dX2_tell_28 : decode cX2_tell 28 = .ok (.aload_n 0, 1) := by decide +kernel
theorem dX2_tell_29 : decode cX2_tell 29 = .ok (.getfield 9, 3) := by decide +kernel
theorem dX2_tell_32 : decode cX2_tell 32 = .ok (.iconst 1, 1) := by decide +kernel
theorem dX2_tell_33 : decode cX2_tell 33 = .ok (.iaload, 1) := by decide +kernel
theorem dX2_tell_34 : decode cX2_tell 34 = .ok (.if_icmp .ge 132, 3) := by decide +kernel
theorem dX2_tell_37 : decode cX2_tell 37 = .ok (.iload_n 3, 1) := by decide +kernel
theorem dX2_tell_38 : decode cX2_tell 38 = .ok (.iload 4, 2) := by decide +kernel
theorem dX2_tell_40 : decode cX2_tell 40 = .ok (.if_icmp .ne 6, 3) := by decide +kernel
theorem dX2_tell_43 : decode cX2_tell 43 = .ok (.goto 117, 3) := by decide +kernel
theorem dX2_tell_46 : decode cX2_tell 46 = .ok (.aload_n 0, 1) := by decide +kernel
theorem dX2_tell_47 : decode cX2_tell 47 = .ok (.getfield 9, 3) := by decide +kernel
theorem dX2_tell_50 : decode cX2_tell 50 = .ok (.aload_n 0, 1) := by decide +kernel
theorem dX2_tell_51 : decode cX2_tell 51 = .ok (.getfield 13, 3) := by decide +kernel
theorem dX2_tell_54 : decode cX2_tell 54 = .ok (.invokestatic 134, 3) := by decide +kernel
theorem dX2_tell_57 : decode cX2_tell 57 = .ok (.iconst 0, 1) := by decide +kernel
theorem dX2_tell_58 : decode cX2_tell 58 = .ok (.istore 5, 2) := by decide +kernel
theorem dX2_tell_60 : decode cX2_tell 60 = .ok (.iload 5, 2) := by decide +kernel
theorem dX2_tell_62 : decode cX2_tell 62 = .ok (.bipush 6, 2) := by decide +kernel
theorem dX2_tell_64 : decode cX2_tell 64 = .ok (.if_icmp .ge 66, 3) := by decide +kernel
theorem dX2_tell_67 : decode cX2_tell 67 = .ok (.aload_n 0, 1) := by decide +kernel
theorem dX2_tell_68 : decode cX2_tell 68 = .ok (.getfield 13, 3) := by decide +kernel
theorem dX2_tell_71 : decode cX2_tell 71 = .ok (.iload_n 3, 1) := by decide +kernel
theorem dX2_tell_72 : decode cX2_tell 72 = .ok (.iconst 2, 1) := by decide +kernel
theorem dX2_tell_73 : decode cX2_tell 73 = .ok (.iload 5, 2) := by decide +kernel
theorem dX2_tell_75 : decode cX2_tell 75 = .ok (.iadd, 1) := by decide +kernel
theorem dX2_tell_76 : decode cX2_tell 76 = .ok (.invokestatic 48, 3) := by decide +kernel
theorem dX2_tell_79 : decode cX2_tell 79 = .ok (.iaload, 1) := by decide +kernel
theorem dX2_tell_80 : decode cX2_tell 80 = .ok (.aload_n 0, 1) := by decide +kernel
theorem dX2_tell_81 : decode cX2_tell 81 = .ok (.getfield 13, 3) := by decide +kernel
theorem dX2_tell_84 : decode cX2_tell 84 = .ok (.iload 4, 2) := by decide +kernel
theorem dX2_tell_86 : decode cX2_tell 86 = .ok (.iconst 2, 1) := by decide +kernel
theorem dX2_tell_87 : decode cX2_tell 87 = .ok (.iload 5, 2) := by decide +kernel
theorem dX2_tell_89 : decode cX2_tell 89 = .ok (.iadd, 1) := by decide +kernel
theorem dX2_tell_90 : decode cX2_tell 90 = .ok (.invokestatic 48, 3) := by decide +kernel
theorem dX2_tell_93 : decode cX2_tell 93 = .ok (.iaload, 1) := by decide +kernel
theorem dX2_tell_94 : decode cX2_tell 94 = .ok (.if_icmp .le 30, 3) := by decide +kernel
theorem dX2_tell_97 : decode cX2_tell 97 = .ok (.aload_n 0, 1) := by decide +kernel
theorem dX2_tell_98 : decode cX2_tell 98 = .ok (.getfield 13, 3) := by decide +kernel
theorem dX2_tell_101 : decode cX2_tell 101 = .ok (.iload 4, 2) := by decide +kernel
theorem dX2_tell_103 : decode cX2_tell 103 = .ok (.iconst 2, 1) := by decide +kernel
theorem dX2_tell_104 : decode cX2_tell 104 = .ok (.iload 5, 2) := by decide +kernel
theorem dX2_tell_106 : decode cX2_tell 106 = .ok (.iadd, 1) := by decide +kernel
theorem dX2_tell_107 : decode cX2_tell 107 = .ok (.invokestatic 48, 3) := by decide +kernel
theorem dX2_tell_110 : decode cX2_tell 110 = .ok (.aload_n 0, 1) := by decide +kernel
theorem dX2_tell_111 : decode cX2_tell 111 = .ok (.getfield 13, 3) := by decide +kernel
theorem dX2_tell_114 : decode cX2_tell 114 = .ok (.iload_n 3, 1) := by decide +kernel
theorem dX2_tell_115 : decode cX2_tell 115 = .ok (.iconst 2, 1) := by decide +kernel
theorem dX2_tell_116 : decode cX2_tell 116 = .ok (.iload 5, 2) := by decide +kernel
theorem dX2_tell_118 : decode cX2_tell 118 = .ok (.iadd, 1) := by decide +kernel
theorem dX2_tell_119 : decode cX2_tell 119 = .ok (.invokestatic 48, 3) := by decide +kernel
theorem dX2_tell_122 : decode cX2_tell 122 = .ok (.iaload, 1) := by decide +kernel
theorem dX2_tell_123 : decode cX2_tell 123 = .ok (.iastore, 1) := by decide +kernel
theorem dX2_tell_124 : decode cX2_tell 124 = .ok (.iinc 5 1, 3) := by decide +kernel
theorem dX2_tell_127 : decode cX2_tell 127 = .ok (.goto (-67), 3) := by decide +kernel
theorem dX2_tell_130 : decode cX2_tell 130 = .ok (.aload_n 0, 1) := by decide +kernel
theorem dX2_tell_131 : decode cX2_tell 131 = .ok (.getfield 13, 3) := by decide +kernel
theorem dX2_tell_134 : decode cX2_tell 134 = .ok (.invokestatic 180, 3) := by decide +kernel
theorem dX2_tell_137 : decode cX2_tell 137 = .ok (.iload_n 1, 1) := by decide +kernel
theorem dX2_tell_138 : decode cX2_tell 138 = .ok (.if_icmp .gt 6, 3) := by decide +kernel
theorem dX2_tell_141 : decode cX2_tell 141 = .ok (.goto 19, 3) := by decide +kernel
theorem dX2_tell_144 : decode cX2_tell 144 = .ok (.bipush 10, 2) := by decide +kernel
theorem dX2_tell_146 : decode cX2_tell 146 = .ok (.iload_n 3, 1) := by decide +kernel
theorem dX2_tell_147 : decode cX2_tell 147 = .ok (.imul, 1) := by decide +kernel
theorem dX2_tell_148 : decode cX2_tell 148 = .ok (.iload 4, 2) := by decide +kernel
theorem dX2_tell_150 : decode cX2_tell 150 = .ok (.iadd, 1) := by decide +kernel
theorem dX2_tell_151 : decode cX2_tell 151 = .ok (.istore_n 2, 1) := by decide +kernel
theorem dX2_tell_152 : decode cX2_tell 152 = .ok (.aload_n 0, 1) := by decide +kernel
theorem dX2_tell_153 : decode cX2_tell 153 = .ok (.getfield 13, 3) := by decide +kernel
theorem dX2_tell_156 : decode cX2_tell 156 = .ok (.invokestatic 180, 3) := by decide +kernel
theorem dX2_tell_159 : decode cX2_tell 159 = .ok (.istore_n 1, 1) := by decide +kernel
theorem dX2_tell_160 : decode cX2_tell 160 = .ok (.iinc 4 1, 3) := by decide +kernel
theorem dX2_tell_163 : decode cX2_tell 163 = .ok (.goto (-137), 3) := by decide +kernel
theorem dX2_tell_166 : decode cX2_tell 166 = .ok (.iinc 3 1, 3) := by decide +kernel
theorem dX2_tell_169 : decode cX2_tell 169 = .ok (.goto (-156), 3) := by decide +kernel
theorem dX2_tell_172 : decode cX2_tell 172 = .ok (.iload_n 2, 1) := by decide +kernel
theorem dX2_tell_173 : decode cX2_tell 173 = .ok (.ireturn, 1) := by decide +kernel
set_option maxRecDepth 20000 in
theorem ggX2_hasBy_X2_copies : GoodIn wsX2_hasBy wsX2_copies := goodIn_r _ [6] (by decide +kernel) (by decide +kernel)
set_option maxRecDepth 20000 in
theorem gX2_hasBy_X2_copies : GoodIn wsX2_hasBy (va_wsS RX2 134 yX2_copies wsX2_copies) := goodIn_app (goodIn_of _ (by decide +kernel)) ggX2_hasBy_X2_copies
set_option maxRecDepth 20000 in
theorem ggX2_hasBy_X2_nightsOn : GoodIn wsX2_hasBy wsX2_nightsOn := goodIn_r _ [9, 10, 11, 5, 12, 13, 14, 15, 16, 17, 18, 19, 20, 21, 22, 23, 24, 25, 26, 27, 28, 29, 30, 31, 32, 33, 34, 35, 36, 37, 38, 39, 40, 41, 42, 43, 44, 45, 46, 47, 48] (by decide +kernel) (by decide +kernel)
set_option maxRecDepth 20000 in
theorem gX2_hasBy_X2_nightsOn : GoodIn wsX2_hasBy (va_wsS RX2 128 yX2_nightsOn wsX2_nightsOn) := goodIn_app (goodIn_of _ (by decide +kernel)) ggX2_hasBy_X2_nightsOn
set_option maxRecDepth 20000 in
theorem ggX2_hasBy_X2_wordsOf : GoodIn wsX2_hasBy wsX2_wordsOf := goodIn_r _ [51, 13, 14, 5, 15] (by decide +kernel) (by decide +kernel)
set_option maxRecDepth 20000 in
theorem gX2_hasBy_X2_wordsOf : GoodIn wsX2_hasBy (va_wsS RX2 91 yX2_wordsOf wsX2_wordsOf) := goodIn_app (goodIn_of _ (by decide +kernel)) ggX2_hasBy_X2_wordsOf
set_option maxRecDepth 20000 in
theorem ggX2_hasBy_X2_bits : GoodIn wsX2_hasBy wsX2_bits := goodIn_r _ [54] (by decide +kernel) (by decide +kernel)
set_option maxRecDepth 20000 in
theorem gX2_hasBy_X2_bits : GoodIn wsX2_hasBy (va_wsS RX2 94 yX2_bits wsX2_bits) := goodIn_app (goodIn_of _ (by decide +kernel)) ggX2_hasBy_X2_bits
theorem dX2_hasBy_0 : decode cX2_hasBy 0 = .ok (.aload_n 0, 1) := by decide +kernel
theorem dX2_hasBy_1 : decode cX2_hasBy 1 = .ok (.getfield 9, 3) := by decide +kernel
theorem dX2_hasBy_4 : decode cX2_hasBy 4 = .ok (.aload_n 0, 1) := by decide +kernel
theorem dX2_hasBy_5 : decode cX2_hasBy 5 = .ok (.getfield 13, 3) := by decide +kernel
theorem dX2_hasBy_8 : decode cX2_hasBy 8 = .ok (.invokestatic 134, 3) := by decide +kernel
theorem dX2_hasBy_11 : decode cX2_hasBy 11 = .ok (.aload_n 0, 1) := by decide +kernel
theorem dX2_hasBy_12 : decode cX2_hasBy 12 = .ok (.getfield 13, 3) := by decide +kernel
theorem dX2_hasBy_15 : decode cX2_hasBy 15 = .ok (.iload 5, 2) := by decide +kernel
theorem dX2_hasBy_17 : decode cX2_hasBy 17 = .ok (.iload_n 3, 1) := by decide +kernel
theorem dX2_hasBy_18 : decode cX2_hasBy 18 = .ok (.invokestatic 128, 3) := by decide +kernel
theorem dX2_hasBy_21 : decode cX2_hasBy 21 = .ok (.aload_n 0, 1) := by decide +kernel
theorem dX2_hasBy_22 : decode cX2_hasBy 22 = .ok (.getfield 13, 3) := by decide +kernel
theorem dX2_hasBy_25 : decode cX2_hasBy 25 = .ok (.iload_n 1, 1) := by decide +kernel
theorem dX2_hasBy_26 : decode cX2_hasBy 26 = .ok (.invokestatic 91, 3) := by decide +kernel
theorem dX2_hasBy_29 : decode cX2_hasBy 29 = .ok (.bipush 63, 2) := by decide +kernel
theorem dX2_hasBy_31 : decode cX2_hasBy 31 = .ok (.if_icmp .ne 20, 3) := by decide +kernel
theorem dX2_hasBy_34 : decode cX2_hasBy 34 = .ok (.aload_n 0, 1) := by decide +kernel
theorem dX2_hasBy_35 : decode cX2_hasBy 35 = .ok (.getfield 13, 3) := by decide +kernel
theorem dX2_hasBy_38 : decode cX2_hasBy 38 = .ok (.iload_n 2, 1) := by decide +kernel
theorem dX2_hasBy_39 : decode cX2_hasBy 39 = .ok (.invokestatic 91, 3) := by decide +kernel
theorem dX2_hasBy_42 : decode cX2_hasBy 42 = .ok (.bipush 63, 2) := by decide +kernel
theorem dX2_hasBy_44 : decode cX2_hasBy 44 = .ok (.if_icmp .eq 7, 3) := by decide +kernel
theorem dX2_hasBy_47 : decode cX2_hasBy 47 = .ok (.iconst 3, 1) := by decide +kernel
theorem dX2_hasBy_48 : decode cX2_hasBy 48 = .ok (.goto 4, 3) := by decide +kernel
theorem dX2_hasBy_51 : decode cX2_hasBy 51 = .ok (.iconst 0, 1) := by decide +kernel
theorem dX2_hasBy_52 : decode cX2_hasBy 52 = .ok (.istore 6, 2) := by decide +kernel
theorem dX2_hasBy_54 : decode cX2_hasBy 54 = .ok (.aload_n 0, 1) := by decide +kernel
theorem dX2_hasBy_55 : decode cX2_hasBy 55 = .ok (.getfield 13, 3) := by decide +kernel
theorem dX2_hasBy_58 : decode cX2_hasBy 58 = .ok (.iload_n 1, 1) := by decide +kernel
theorem dX2_hasBy_59 : decode cX2_hasBy 59 = .ok (.invokestatic 91, 3) := by decide +kernel
theorem dX2_hasBy_62 : decode cX2_hasBy 62 = .ok (.invokestatic 94, 3) := by decide +kernel
theorem dX2_hasBy_65 : decode cX2_hasBy 65 = .ok (.iload 4, 2) := by decide +kernel
theorem dX2_hasBy_67 : decode cX2_hasBy 67 = .ok (.isub, 1) := by decide +kernel
theorem dX2_hasBy_68 : decode cX2_hasBy 68 = .ok (.iload 6, 2) := by decide +kernel
theorem dX2_hasBy_70 : decode cX2_hasBy 70 = .ok (.iadd, 1) := by decide +kernel
theorem dX2_hasBy_71 : decode cX2_hasBy 71 = .ok (.ireturn, 1) := by decide +kernel
theorem dX2_lookingBy_0 : decode cX2_lookingBy 0 = .ok (.iconst 1, 1) := by decide +kernel
theorem dX2_lookingBy_1 : decode cX2_lookingBy 1 = .ok (.iload_n 1, 1) := by decide +kernel
theorem dX2_lookingBy_2 : decode cX2_lookingBy 2 = .ok (.isub, 1) := by decide +kernel
theorem dX2_lookingBy_3 : decode cX2_lookingBy 3 = .ok (.iload_n 0, 1) := by decide +kernel
theorem dX2_lookingBy_4 : decode cX2_lookingBy 4 = .ok (.ishl, 1) := by decide +kernel
theorem dX2_lookingBy_5 : decode cX2_lookingBy 5 = .ok (.iconst 1, 1) := by decide +kernel
theorem dX2_lookingBy_6 : decode cX2_lookingBy 6 = .ok (.iload_n 3, 1) := by decide +kernel
theorem dX2_lookingBy_7 : decode cX2_lookingBy 7 = .ok (.isub, 1) := by decide +kernel
theorem dX2_lookingBy_8 : decode cX2_lookingBy 8 = .ok (.iload_n 2, 1) := by decide +kernel
theorem dX2_lookingBy_9 : decode cX2_lookingBy 9 = .ok (.ishl, 1) := by decide +kernel
theorem dX2_lookingBy_10 : decode cX2_lookingBy 10 = .ok (.ior, 1) := by decide +kernel
theorem dX2_lookingBy_11 : decode cX2_lookingBy 11 = .ok (.iconst (-1), 1) := by decide +kernel
theorem dX2_lookingBy_12 : decode cX2_lookingBy 12 = .ok (.ixor, 1) := by decide +kernel
theorem dX2_lookingBy_13 : decode cX2_lookingBy 13 = .ok (.ireturn, 1) := by decide +kernel
set_option maxRecDepth 20000 in
theorem ggX2_two_X2_isReader : GoodIn wsX2_two wsX2_isReader := goodIn_r _ [5, 6, 7, 8, 4, 9, 77, 78, 79, 80, 81, 82, 83, 84, 85, 86, 87, 88, 89] (by decide +kernel) (by decide +kernel)
set_option maxRecDepth 20000 in
theorem gX2_two_X2_isReader : GoodIn wsX2_two (wsV RX2 147 RX2 yX2_isReader wsX2_isReader) := goodIn_app (goodIn_of _ (by decide +kernel)) ggX2_two_X2_isReader
set_option maxRecDepth 20000 in
theorem ggX2_two_X2_wrongBy : GoodIn wsX2_two wsX2_wrongBy := goodIn_r _ [12] (by decide +kernel) (by decide +kernel)
set_option maxRecDepth 20000 in
theorem gX2_two_X2_wrongBy : GoodIn wsX2_two (va_wsS RX2 153 yX2_wrongBy wsX2_wrongBy) := goodIn_app (goodIn_of _ (by decide +kernel)) ggX2_two_X2_wrongBy
set_option maxRecDepth 20000 in
theorem ggX2_two_X2_no : GoodIn wsX2_two wsX2_no := goodIn_r _ [16, 17, 77, 78, 79, 80, 81, 82, 83, 84, 85, 86, 87, 88, 89] (by decide +kernel) (by decide +kernel)
set_option maxRecDepth 20000 in
theorem gX2_two_X2_no : GoodIn wsX2_two (wsV RX2 36 RX2 yX2_no wsX2_no) := goodIn_app (goodIn_of _ (by decide +kernel)) ggX2_two_X2_no
set_option maxRecDepth 20000 in
theorem ggX2_two_X2_lookingBy : GoodIn wsX2_two wsX2_lookingBy := goodIn_r _ [20] (by decide +kernel) (by decide +kernel)
set_option maxRecDepth 20000 in
theorem gX2_two_X2_lookingBy : GoodIn wsX2_two (va_wsS RX2 196 yX2_lookingBy wsX2_lookingBy) := goodIn_app (goodIn_of _ (by decide +kernel)) ggX2_two_X2_lookingBy
set_option maxRecDepth 20000 in
theorem ggX2_two_X2_hasBy : GoodIn wsX2_two wsX2_hasBy := goodIn_r _ [24, 6, 25, 26, 27, 4, 28, 29, 30, 31, 32, 33, 34, 35, 36, 37, 38, 39, 40, 41, 42, 43, 44, 45, 46, 47, 48, 49, 50, 51, 52, 53, 54, 55, 56, 57, 58, 59, 60, 61, 62, 63, 64, 65, 66, 67, 68, 69, 70, 71, 72, 73, 74, 75, 76, 77, 78, 79, 80, 81, 82, 83, 84, 85, 86, 87, 88, 89] (by decide +kernel) (by decide +kernel)
set_option maxRecDepth 20000 in
theorem gX2_two_X2_hasBy : GoodIn wsX2_two (wsV RX2 200 RX2 yX2_hasBy wsX2_hasBy) := goodIn_app (goodIn_of _ (by decide +kernel)) ggX2_two_X2_hasBy
theorem dX2_two_0 : decode cX2_two 0 = .ok (.aload_n 0, 1) := by decide +kernel
theorem dX2_two_1 : decode cX2_two 1 = .ok (.iload_n 1, 1) := by decide +kernel
theorem dX2_two_2 : decode cX2_two 2 = .ok (.invokevirtual 147, 3) := by decide +kernel
theorem dX2_two_5 : decode cX2_two 5 = .ok (.ifCond .eq 26, 3) := by decide +kernel
theorem dX2_two_8 : decode cX2_two 8 = .ok (.aload_n 0, 1) := by decide +kernel
theorem dX2_two_9 : decode cX2_two 9 = .ok (.iload_n 2, 1) := by decide +kernel
theorem dX2_two_10 : decode cX2_two 10 = .ok (.invokevirtual 147, 3) := by decide +kernel
theorem dX2_two_13 : decode cX2_two 13 = .ok (.ifCond .eq 18, 3) := by decide +kernel
theorem dX2_two_16 : decode cX2_two 16 = .ok (.iload_n 1, 1) := by decide +kernel
theorem dX2_two_17 : decode cX2_two 17 = .ok (.iload_n 2, 1) := by decide +kernel
theorem dX2_two_18 : decode cX2_two 18 = .ok (.if_icmp .eq 13, 3) := by decide +kernel
theorem dX2_two_21 : decode cX2_two 21 = .ok (.iload_n 3, 1) := by decide +kernel
theorem dX2_two_22 : decode cX2_two 22 = .ok (.iconst 0, 1) := by decide +kernel
theorem dX2_two_23 : decode cX2_two 23 = .ok (.bipush 30, 2) := by decide +kernel
theorem dX2_two_25 : decode cX2_two 25 = .ok (.invokestatic 153, 3) := by decide +kernel
theorem dX2_two_28 : decode cX2_two 28 = .ok (.goto 4, 3) := by decide +kernel
theorem dX2_two_31 : decode cX2_two 31 = .ok (.iconst (-1), 1) := by decide +kernel
theorem dX2_two_32 : decode cX2_two 32 = .ok (.istore 4, 2) := by decide +kernel
theorem dX2_two_34 : decode cX2_two 34 = .ok (.iload 4, 2) := by decide +kernel
theorem dX2_two_36 : decode cX2_two 36 = .ok (.ifCond .eq 10, 3) := by decide +kernel
theorem dX2_two_39 : decode cX2_two 39 = .ok (.aload_n 0, 1) := by decide +kernel
theorem dX2_two_40 : decode cX2_two 40 = .ok (.iload 4, 2) := by decide +kernel
theorem dX2_two_42 : decode cX2_two 42 = .ok (.invokevirtual 36, 3) := by decide +kernel
theorem dX2_two_45 : decode cX2_two 45 = .ok (.ireturn, 1) := by decide +kernel
theorem dX2_two_46 : decode cX2_two 46 = .ok (.iconst 0, 1) := by decide +kernel
theorem dX2_two_47 : decode cX2_two 47 = .ok (.istore 5, 2) := by decide +kernel
theorem dX2_two_49 : decode cX2_two 49 = .ok (.iload 5, 2) := by decide +kernel
theorem dX2_two_51 : decode cX2_two 51 = .ok (.iconst 4, 1) := by decide +kernel
theorem dX2_two_52 : decode cX2_two 52 = .ok (.if_icmp .ge 113, 3) := by decide +kernel
theorem dX2_two_55 : decode cX2_two 55 = .ok (.iload 5, 2) := by decide +kernel
theorem dX2_two_57 : decode cX2_two 57 = .ok (.iconst 2, 1) := by decide +kernel
theorem dX2_two_58 : decode cX2_two 58 = .ok (.idiv, 1) := by decide +kernel
theorem dX2_two_59 : decode cX2_two 59 = .ok (.istore 6, 2) := by decide +kernel
theorem dX2_two_61 : decode cX2_two 61 = .ok (.iload 5, 2) := by decide +kernel
theorem dX2_two_63 : decode cX2_two 63 = .ok (.iconst 2, 1) := by decide +kernel
theorem dX2_two_64 : decode cX2_two 64 = .ok (.irem, 1) := by decide +kernel
theorem dX2_two_65 : decode cX2_two 65 = .ok (.istore 7, 2) := by decide +kernel
theorem dX2_two_67 : decode cX2_two 67 = .ok (.iload_n 1, 1) := by decide +kernel
theorem dX2_two_68 : decode cX2_two 68 = .ok (.iload 6, 2) := by decide +kernel
theorem dX2_two_70 : decode cX2_two 70 = .ok (.iload_n 2, 1) := by decide +kernel
theorem dX2_two_71 : decode cX2_two 71 = .ok (.iload 7, 2) := by decide +kernel
theorem dX2_two_73 : decode cX2_two 73 = .ok (.invokestatic 196, 3) := by decide +kernel
theorem dX2_two_76 : decode cX2_two 76 = .ok (.istore 8, 2) := by decide +kernel
theorem dX2_two_78 : decode cX2_two 78 = .ok (.aload_n 0, 1) := by decide +kernel
theorem dX2_two_79 : decode cX2_two 79 = .ok (.iload_n 1, 1) := by decide +kernel
theorem dX2_two_80 : decode cX2_two 80 = .ok (.iload_n 2, 1) := by decide +kernel
theorem dX2_two_81 : decode cX2_two 81 = .ok (.iload_n 1, 1) := by decide +kernel
theorem dX2_two_82 : decode cX2_two 82 = .ok (.iconst 1, 1) := by decide +kernel
theorem dX2_two_83 : decode cX2_two 83 = .ok (.iload 6, 2) := by decide +kernel
theorem dX2_two_85 : decode cX2_two 85 = .ok (.isub, 1) := by decide +kernel
theorem dX2_two_86 : decode cX2_two 86 = .ok (.iload_n 2, 1) := by decide +kernel
theorem dX2_two_87 : decode cX2_two 87 = .ok (.iload 7, 2) := by decide +kernel
theorem dX2_two_89 : decode cX2_two 89 = .ok (.invokestatic 196, 3) := by decide +kernel
theorem dX2_two_92 : decode cX2_two 92 = .ok (.iconst 1, 1) := by decide +kernel
theorem dX2_two_93 : decode cX2_two 93 = .ok (.iload 6, 2) := by decide +kernel
theorem dX2_two_95 : decode cX2_two 95 = .ok (.isub, 1) := by decide +kernel
theorem dX2_two_96 : decode cX2_two 96 = .ok (.iload_n 3, 1) := by decide +kernel
theorem dX2_two_97 : decode cX2_two 97 = .ok (.invokevirtual 200, 3) := by decide +kernel
theorem dX2_two_100 : decode cX2_two 100 = .ok (.aload_n 0, 1) := by decide +kernel
theorem dX2_two_101 : decode cX2_two 101 = .ok (.iload_n 1, 1) := by decide +kernel
theorem dX2_two_102 : decode cX2_two 102 = .ok (.iload_n 2, 1) := by decide +kernel
theorem dX2_two_103 : decode cX2_two 103 = .ok (.iload 8, 2) := by decide +kernel
theorem dX2_two_105 : decode cX2_two 105 = .ok (.iload 6, 2) := by decide +kernel
theorem dX2_two_107 : decode cX2_two 107 = .ok (.iload_n 3, 1) := by decide +kernel
theorem dX2_two_108 : decode cX2_two 108 = .ok (.invokevirtual 200, 3) := by decide +kernel
theorem dX2_two_111 : decode cX2_two 111 = .ok (.if_icmp .gt 48, 3) := by decide +kernel
theorem dX2_two_114 : decode cX2_two 114 = .ok (.aload_n 0, 1) := by decide +kernel
theorem dX2_two_115 : decode cX2_two 115 = .ok (.iload_n 2, 1) := by decide +kernel
theorem dX2_two_116 : decode cX2_two 116 = .ok (.iload_n 1, 1) := by decide +kernel
theorem dX2_two_117 : decode cX2_two 117 = .ok (.iload_n 1, 1) := by decide +kernel
theorem dX2_two_118 : decode cX2_two 118 = .ok (.iload 6, 2) := by decide +kernel
theorem dX2_two_120 : decode cX2_two 120 = .ok (.iload_n 2, 1) := by decide +kernel
theorem dX2_two_121 : decode cX2_two 121 = .ok (.iconst 1, 1) := by decide +kernel
theorem dX2_two_122 : decode cX2_two 122 = .ok (.iload 7, 2) := by decide +kernel
theorem dX2_two_124 : decode cX2_two 124 = .ok (.isub, 1) := by decide +kernel
theorem dX2_two_125 : decode cX2_two 125 = .ok (.invokestatic 196, 3) := by decide +kernel
theorem dX2_two_128 : decode cX2_two 128 = .ok (.iconst 1, 1) := by decide +kernel
theorem dX2_two_129 : decode cX2_two 129 = .ok (.iload 7, 2) := by decide +kernel
theorem dX2_two_131 : decode cX2_two 131 = .ok (.isub, 1) := by decide +kernel
theorem dX2_two_132 : decode cX2_two 132 = .ok (.iload_n 3, 1) := by decide +kernel
theorem dX2_two_133 : decode cX2_two 133 = .ok (.invokevirtual 200, 3) := by decide +kernel
theorem dX2_two_136 : decode cX2_two 136 = .ok (.aload_n 0, 1) := by decide +kernel
theorem dX2_two_137 : decode cX2_two 137 = .ok (.iload_n 2, 1) := by decide +kernel
theorem dX2_two_138 : decode cX2_two 138 = .ok (.iload_n 1, 1) := by decide +kernel
theorem dX2_two_139 : decode cX2_two 139 = .ok (.iload 8, 2) := by decide +kernel
theorem dX2_two_141 : decode cX2_two 141 = .ok (.iload 7, 2) := by decide +kernel
theorem dX2_two_143 : decode cX2_two 143 = .ok (.iload_n 3, 1) := by decide +kernel
theorem dX2_two_144 : decode cX2_two 144 = .ok (.invokevirtual 200, 3) := by decide +kernel
theorem dX2_two_147 : decode cX2_two 147 = .ok (.if_icmp .gt 12, 3) := by decide +kernel
theorem dX2_two_150 : decode cX2_two 150 = .ok (.bipush 10, 2) := by decide +kernel
theorem dX2_two_152 : decode cX2_two 152 = .ok (.iload 6, 2) := by decide +kernel
theorem dX2_two_154 : decode cX2_two 154 = .ok (.imul, 1) := by decide +kernel
theorem dX2_two_155 : decode cX2_two 155 = .ok (.iload 7, 2) := by decide +kernel
theorem dX2_two_157 : decode cX2_two 157 = .ok (.iadd, 1) := by decide +kernel
theorem dX2_two_158 : decode cX2_two 158 = .ok (.ireturn, 1) := by decide +kernel
theorem dX2_two_159 : decode cX2_two 159 = .ok (.iinc 5 1, 3) := by decide +kernel
theorem dX2_two_162 : decode cX2_two 162 = .ok (.goto (-113), 3) := by decide +kernel
theorem dX2_two_165 : decode cX2_two 165 = .ok (.bipush (-9), 2) := by decide +kernel
theorem dX2_two_167 : decode cX2_two 167 = .ok (.ireturn, 1) := by decide +kernel
theorem dX2_gcd_0 : decode cX2_gcd 0 = .ok (.lload_n 0, 1) := by decide +kernel
theorem dX2_gcd_1 : decode cX2_gcd 1 = .ok (.lstore 4, 2) := by decide +kernel
theorem dX2_gcd_3 : decode cX2_gcd 3 = .ok (.lload_n 2, 1) := by decide +kernel
theorem dX2_gcd_4 : decode cX2_gcd 4 = .ok (.lstore 6, 2) := by decide +kernel
theorem dX2_gcd_6 : decode cX2_gcd 6 = .ok (.lload 6, 2) := by decide +kernel
theorem dX2_gcd_8 : decode cX2_gcd 8 = .ok (.lconst 0, 1) := by decide +kernel
theorem dX2_gcd_9 : decode cX2_gcd 9 = .ok (.lcmp, 1) := by decide +kernel
theorem dX2_gcd_10 : decode cX2_gcd 10 = .ok (.ifCond .eq 21, 3) := by decide +kernel
theorem dX2_gcd_13 : decode cX2_gcd 13 = .ok (.lload 4, 2) := by decide +kernel
theorem dX2_gcd_15 : decode cX2_gcd 15 = .ok (.lload 6, 2) := by decide +kernel
theorem dX2_gcd_17 : decode cX2_gcd 17 = .ok (.lrem, 1) := by decide +kernel
theorem dX2_gcd_18 : decode cX2_gcd 18 = .ok (.lstore 8, 2) := by decide +kernel
theorem dX2_gcd_20 : decode cX2_gcd 20 = .ok (.lload 6, 2) := by decide +kernel
theorem dX2_gcd_22 : decode cX2_gcd 22 = .ok (.lstore 4, 2) := by decide +kernel
theorem dX2_gcd_24 : decode cX2_gcd 24 = .ok (.lload 8, 2) := by decide +kernel
theorem dX2_gcd_26 : decode cX2_gcd 26 = .ok (.lstore 6, 2) := by decide +kernel
theorem dX2_gcd_28 : decode cX2_gcd 28 = .ok (.goto (-22), 3) := by decide +kernel
theorem dX2_gcd_31 : decode cX2_gcd 31 = .ok (.lload 4, 2) := by decide +kernel
theorem dX2_gcd_33 : decode cX2_gcd 33 = .ok (.lreturn, 1) := by decide +kernel
set_option maxRecDepth 20000 in
theorem ggX2_partOf_X2_gcd : GoodIn wsX2_partOf wsX2_gcd := goodIn_r _ [4] (by decide +kernel) (by decide +kernel)
set_option maxRecDepth 20000 in
theorem gX2_partOf_X2_gcd : GoodIn wsX2_partOf (va_wsS RX2 204 yX2_gcd wsX2_gcd) := goodIn_app (goodIn_of _ (by decide +kernel)) ggX2_partOf_X2_gcd
theorem dX2_partOf_0 : decode cX2_partOf 0 = .ok (.lload_n 0, 1) := by decide +kernel
theorem dX2_partOf_1 : decode cX2_partOf 1 = .ok (.lconst 0, 1) := by decide +kernel
theorem dX2_partOf_2 : decode cX2_partOf 2 = .ok (.lcmp, 1) := by decide +kernel
theorem dX2_partOf_3 : decode cX2_partOf 3 = .ok (.ifCond .ne 7, 3) := by decide +kernel
theorem dX2_partOf_6 : decode cX2_partOf 6 = .ok (.iload 4, 2) := by decide +kernel
theorem dX2_partOf_8 : decode cX2_partOf 8 = .ok (.i2l, 1) := by decide +kernel
theorem dX2_partOf_9 : decode cX2_partOf 9 = .ok (.lreturn, 1) := by decide +kernel
theorem dX2_partOf_10 : decode cX2_partOf 10 = .ok (.iload 4, 2) := by decide +kernel
theorem dX2_partOf_12 : decode cX2_partOf 12 = .ok (.ifCond .ne 7, 3) := by decide +kernel
theorem dX2_partOf_15 : decode cX2_partOf 15 = .ok (.lload_n 0, 1) := by decide +kernel
theorem dX2_partOf_16 : decode cX2_partOf 16 = .ok (.goto 4, 3) := by decide +kernel
theorem dX2_partOf_19 : decode cX2_partOf 19 = .ok (.lload_n 2, 1) := by decide +kernel
theorem dX2_partOf_20 : decode cX2_partOf 20 = .ok (.lload_n 0, 1) := by decide +kernel
theorem dX2_partOf_21 : decode cX2_partOf 21 = .ok (.lload_n 2, 1) := by decide +kernel
theorem dX2_partOf_22 : decode cX2_partOf 22 = .ok (.invokestatic 204, 3) := by decide +kernel
theorem dX2_partOf_25 : decode cX2_partOf 25 = .ok (.ldiv, 1) := by decide +kernel
theorem dX2_partOf_26 : decode cX2_partOf 26 = .ok (.lreturn, 1) := by decide +kernel
set_option maxRecDepth 20000 in
theorem ggX2_rain_X2_isReader : GoodIn wsX2_rain wsX2_isReader := goodIn_r _ [7, 1, 8, 9, 6, 10, 72, 73, 74, 75, 76, 77, 78, 79, 80, 81, 82, 83, 84] (by decide +kernel) (by decide +kernel)
set_option maxRecDepth 20000 in
theorem gX2_rain_X2_isReader : GoodIn wsX2_rain (wsV RX2 147 RX2 yX2_isReader wsX2_isReader) := goodIn_app (goodIn_of _ (by decide +kernel)) ggX2_rain_X2_isReader
set_option maxRecDepth 20000 in
theorem ggX2_rain_X2_noWide : GoodIn wsX2_rain wsX2_noWide := goodIn_r _ [14, 15, 16, 17, 18, 6, 19, 20, 72, 73, 74, 75, 76, 77, 78, 79, 80, 81, 82, 83, 84] (by decide +kernel) (by decide +kernel)
set_option maxRecDepth 20000 in
theorem gX2_rain_X2_noWide : GoodIn wsX2_rain (wsV RX2 208 RX2 yX2_noWide wsX2_noWide) := goodIn_app (goodIn_of _ (by decide +kernel)) ggX2_rain_X2_noWide
set_option maxRecDepth 20000 in
theorem ggX2_rain_X2_isIn : GoodIn wsX2_rain wsX2_isIn := goodIn_r _ [10] (by decide +kernel) (by decide +kernel)
set_option maxRecDepth 20000 in
theorem gX2_rain_X2_isIn : GoodIn wsX2_rain (va_wsS RX2 40 yX2_isIn wsX2_isIn) := goodIn_app (goodIn_of _ (by decide +kernel)) ggX2_rain_X2_isIn
set_option maxRecDepth 20000 in
theorem ggX2_rain_X2_copies : GoodIn wsX2_rain wsX2_copies := goodIn_r _ [23] (by decide +kernel) (by decide +kernel)
set_option maxRecDepth 20000 in
theorem gX2_rain_X2_copies : GoodIn wsX2_rain (va_wsS RX2 134 yX2_copies wsX2_copies) := goodIn_app (goodIn_of _ (by decide +kernel)) ggX2_rain_X2_copies
set_option maxRecDepth 20000 in
theorem ggX2_rain_X2_has : GoodIn wsX2_rain wsX2_has := goodIn_r _ [26] (by decide +kernel) (by decide +kernel)
set_option maxRecDepth 20000 in
theorem gX2_rain_X2_has : GoodIn wsX2_rain (va_wsS RX2 65 yX2_has wsX2_has) := goodIn_app (goodIn_of _ (by decide +kernel)) ggX2_rain_X2_has
set_option maxRecDepth 20000 in
theorem ggX2_rain_X2_night : GoodIn wsX2_rain wsX2_night := goodIn_r _ [29, 30, 31, 6, 32, 33, 34, 35, 36, 37, 38, 39, 40, 41, 42, 43, 44, 45, 46, 47, 48, 49, 50, 24, 25, 26, 51, 52, 53, 54, 55, 56, 57, 58, 59, 60, 61, 62] (by decide +kernel) (by decide +kernel)
set_option maxRecDepth 20000 in
theorem gX2_rain_X2_night : GoodIn wsX2_rain (va_wsS RX2 87 yX2_night wsX2_night) := goodIn_app (goodIn_of _ (by decide +kernel)) ggX2_rain_X2_night
set_option maxRecDepth 20000 in
theorem ggX2_rain_X2_wordsOf : GoodIn wsX2_rain wsX2_wordsOf := goodIn_r _ [65, 30, 31, 6, 32] (by decide +kernel) (by decide +kernel)
set_option maxRecDepth 20000 in
theorem gX2_rain_X2_wordsOf : GoodIn wsX2_rain (va_wsS RX2 91 yX2_wordsOf wsX2_wordsOf) := goodIn_app (goodIn_of _ (by decide +kernel)) ggX2_rain_X2_wordsOf
set_option maxRecDepth 20000 in
theorem ggX2_rain_X2_partOf : GoodIn wsX2_rain wsX2_partOf := goodIn_r _ [68, 69, 70, 6, 71] (by decide +kernel) (by decide +kernel)
set_option maxRecDepth 20000 in
theorem gX2_rain_X2_partOf : GoodIn wsX2_rain (va_wsS RX2 212 yX2_partOf wsX2_partOf) := goodIn_app (goodIn_of _ (by decide +kernel)) ggX2_rain_X2_partOf
theorem dX2_rain_0 : decode cX2_rain 0 = .ok (.aload_n 0, 1) := by decide +kernel
theorem dX2_rain_1 : decode cX2_rain 1 = .ok (.iload_n 1, 1) := by decide +kernel
theorem dX2_rain_2 : decode cX2_rain 2 = .ok (.invokevirtual 147, 3) := by decide +kernel
theorem dX2_rain_5 : decode cX2_rain 5 = .ok (.ifCond .ne 9, 3) := by decide +kernel
theorem dX2_rain_8 : decode cX2_rain 8 = .ok (.aload_n 0, 1) := by decide +kernel
theorem dX2_rain_9 : decode cX2_rain 9 = .ok (.iconst (-1), 1) := by decide +kernel
theorem dX2_rain_10 : decode cX2_rain 10 = .ok (.invokevirtual 208, 3) := by decide +kernel
theorem dX2_rain_13 : decode cX2_rain 13 = .ok (.lreturn, 1) := by decide +kernel
theorem dX2_rain_14 : decode cX2_rain 14 = .ok (.iload_n 2, 1) := by decide +kernel
theorem dX2_rain_15 : decode cX2_rain 15 = .ok (.ifCond .lt 8, 3) := by decide +kernel
theorem dX2_rain_18 : decode cX2_rain 18 = .ok (.iload_n 3, 1) := by decide +kernel
theorem dX2_rain_19 : decode cX2_rain 19 = .ok (.iconst 2, 1) := by decide +kernel
theorem dX2_rain_20 : decode cX2_rain 20 = .ok (.if_icmp .ge 10, 3) := by decide +kernel
theorem dX2_rain_23 : decode cX2_rain 23 = .ok (.aload_n 0, 1) := by decide +kernel
theorem dX2_rain_24 : decode cX2_rain 24 = .ok (.bipush (-4), 2) := by decide +kernel
theorem dX2_rain_26 : decode cX2_rain 26 = .ok (.invokevirtual 208, 3) := by decide +kernel
theorem dX2_rain_29 : decode cX2_rain 29 = .ok (.lreturn, 1) := by decide +kernel
theorem dX2_rain_30 : decode cX2_rain 30 = .ok (.iload_n 2, 1) := by decide +kernel
theorem dX2_rain_31 : decode cX2_rain 31 = .ok (.bipush 7, 2) := by decide +kernel
theorem dX2_rain_33 : decode cX2_rain 33 = .ok (.if_icmp .gt 9, 3) := by decide +kernel
theorem dX2_rain_36 : decode cX2_rain 36 = .ok (.iload_n 3, 1) := by decide +kernel
theorem dX2_rain_37 : decode cX2_rain 37 = .ok (.bipush 20, 2) := by decide +kernel
theorem dX2_rain_39 : decode cX2_rain 39 = .ok (.if_icmp .le 10, 3) := by decide +kernel
theorem dX2_rain_42 : decode cX2_rain 42 = .ok (.aload_n 0, 1) := by decide +kernel
theorem dX2_rain_43 : decode cX2_rain 43 = .ok (.bipush (-6), 2) := by decide +kernel
theorem dX2_rain_45 : decode cX2_rain 45 = .ok (.invokevirtual 208, 3) := by decide +kernel
theorem dX2_rain_48 : decode cX2_rain 48 = .ok (.lreturn, 1) := by decide +kernel
theorem dX2_rain_49 : decode cX2_rain 49 = .ok (.iload 4, 2) := by decide +kernel
theorem dX2_rain_51 : decode cX2_rain 51 = .ok (.iconst 0, 1) := by decide +kernel
theorem dX2_rain_52 : decode cX2_rain 52 = .ok (.iconst 1, 1) := by decide +kernel
theorem dX2_rain_53 : decode cX2_rain 53 = .ok (.invokestatic 40, 3) := by decide +kernel
theorem dX2_rain_56 : decode cX2_rain 56 = .ok (.ifCond .ne 10, 3) := by decide +kernel
theorem dX2_rain_59 : decode cX2_rain 59 = .ok (.aload_n 0, 1) := by decide +kernel
theorem dX2_rain_60 : decode cX2_rain 60 = .ok (.bipush (-2), 2) := by decide +kernel
theorem dX2_rain_62 : decode cX2_rain 62 = .ok (.invokevirtual 208, 3) := by decide +kernel
theorem dX2_rain_65 : decode cX2_rain 65 = .ok (.lreturn, 1) := by decide +kernel
theorem dX2_rain_66 : decode cX2_rain 66 = .ok (.lconst 0, 1) := by decide +kernel
theorem dX2_rain_67 : decode cX2_rain 67 = .ok (.lstore 5, 2) := by decide +kernel
theorem dX2_rain_69 : decode cX2_rain 69 = .ok (.lconst 1, 1) := by decide +kernel
theorem dX2_rain_70 : decode cX2_rain 70 = .ok (.lstore 7, 2) := by decide +kernel
theorem dX2_rain_72 : decode cX2_rain 72 = .ok (.iconst 0, 1) := by decide +kernel
theorem dX2_rain_73 : decode cX2_rain 73 = .ok (.istore 9, 2) := by decide +kernel
theorem dX2_rain_75 : decode cX2_rain 75 = .ok (.iload 9, 2) := by decide +kernel
theorem dX2_rain_77 : decode cX2_rain 77 = .ok (.iload_n 2, 1) := by decide +kernel
theorem dX2_rain_78 : decode cX2_rain 78 = .ok (.if_icmp .ge 16, 3) := by decide +kernel
theorem dX2_rain_81 : decode cX2_rain 81 = .ok (.lload 7, 2) := by decide +kernel
theorem dX2_rain_83 : decode cX2_rain 83 = .ok (.iload_n 3, 1) := by decide +kernel
theorem dX2_rain_84 : decode cX2_rain 84 = .ok (.i2l, 1) := by decide +kernel
theorem dX2_rain_85 : decode cX2_rain 85 = .ok (.lmul, 1) := by decide +kernel
theorem dX2_rain_86 : decode cX2_rain 86 = .ok (.lstore 7, 2) := by decide +kernel
theorem dX2_rain_88 : decode cX2_rain 88 = .ok (.iinc 9 1, 3) := by decide +kernel
theorem dX2_rain_91 : decode cX2_rain 91 = .ok (.goto (-16), 3) := by decide +kernel
theorem dX2_rain_94 : decode cX2_rain 94 = .ok (.iconst 0, 1) := by decide +kernel
theorem dX2_rain_95 : decode cX2_rain 95 = .ok (.istore 9, 2) := by decide +kernel
theorem dX2_rain_97 : decode cX2_rain 97 = .ok (.iload 9, 2) := by decide +kernel
theorem dX2_rain_99 : decode cX2_rain 99 = .ok (.iconst 1, 1) := by decide +kernel
theorem dX2_rain_100 : decode cX2_rain 100 = .ok (.iload_n 2, 1) := by decide +kernel
theorem dX2_rain_101 : decode cX2_rain 101 = .ok (.ishl, 1) := by decide +kernel
theorem dX2_rain_102 : decode cX2_rain 102 = .ok (.if_icmp .ge 107, 3) := by decide +kernel
theorem dX2_rain_105 : decode cX2_rain 105 = .ok (.lconst 1, 1) := by decide +kernel
theorem dX2_rain_106 : decode cX2_rain 106 = .ok (.lstore 10, 2) := by decide +kernel
theorem dX2_rain_108 : decode cX2_rain 108 = .ok (.aload_n 0, 1) := by decide +kernel
theorem dX2_rain_109 : decode cX2_rain 109 = .ok (.getfield 9, 3) := by decide +kernel
theorem dX2_rain_112 : decode cX2_rain 112 = .ok (.aload_n 0, 1) := by decide +kernel
theorem dX2_rain_113 : decode cX2_rain 113 = .ok (.getfield 13, 3) := by decide +kernel
theorem dX2_rain_116 : decode cX2_rain 116 = .ok (.invokestatic 134, 3) := by decide +kernel
theorem dX2_rain_119 : decode cX2_rain 119 = .ok (.iconst 0, 1) := by decide +kernel
theorem dX2_rain_120 : decode cX2_rain 120 = .ok (.istore 12, 2) := by decide +kernel
theorem dX2_rain_122 : decode cX2_rain 122 = .ok (.iload 12, 2) := by decide +kernel
theorem dX2_rain_124 : decode cX2_rain 124 = .ok (.iload_n 2, 1) := by decide +kernel
theorem dX2_rain_125 : decode cX2_rain 125 = .ok (.if_icmp .ge 54, 3) := by decide +kernel
theorem dX2_rain_128 : decode cX2_rain 128 = .ok (.lload 10, 2) := by decide +kernel
theorem dX2_rain_130 : decode cX2_rain 130 = .ok (.iload 9, 2) := by decide +kernel
theorem dX2_rain_132 : decode cX2_rain 132 = .ok (.iload 12, 2) := by decide +kernel
theorem dX2_rain_134 : decode cX2_rain 134 = .ok (.invokestatic 65, 3) := by decide +kernel
theorem dX2_rain_137 : decode cX2_rain 137 = .ok (.ifCond .eq 7, 3) := by decide +kernel
theorem dX2_rain_140 : decode cX2_rain 140 = .ok (.lconst 1, 1) := by decide +kernel
theorem dX2_rain_141 : decode cX2_rain 141 = .ok (.goto 7, 3) := by decide +kernel
theorem dX2_rain_144 : decode cX2_rain 144 = .ok (.iload_n 3, 1) := by decide +kernel
theorem dX2_rain_145 : decode cX2_rain 145 = .ok (.iconst 1, 1) := by decide +kernel
theorem dX2_rain_146 : decode cX2_rain 146 = .ok (.isub, 1) := by decide +kernel
theorem dX2_rain_147 : decode cX2_rain 147 = .ok (.i2l, 1) := by decide +kernel
theorem dX2_rain_148 : decode cX2_rain 148 = .ok (.lmul, 1) := by decide +kernel
theorem dX2_rain_149 : decode cX2_rain 149 = .ok (.lstore 10, 2) := by decide +kernel
theorem dX2_rain_151 : decode cX2_rain 151 = .ok (.aload_n 0, 1) := by decide +kernel
theorem dX2_rain_152 : decode cX2_rain 152 = .ok (.getfield 13, 3) := by decide +kernel
theorem dX2_rain_155 : decode cX2_rain 155 = .ok (.iload 9, 2) := by decide +kernel
theorem dX2_rain_157 : decode cX2_rain 157 = .ok (.iload 12, 2) := by decide +kernel
theorem dX2_rain_159 : decode cX2_rain 159 = .ok (.invokestatic 65, 3) := by decide +kernel
theorem dX2_rain_162 : decode cX2_rain 162 = .ok (.ifCond .eq 7, 3) := by decide +kernel
theorem dX2_rain_165 : decode cX2_rain 165 = .ok (.iconst 0, 1) := by decide +kernel
theorem dX2_rain_166 : decode cX2_rain 166 = .ok (.goto 4, 3) := by decide +kernel
theorem dX2_rain_169 : decode cX2_rain 169 = .ok (.iconst (-1), 1) := by decide +kernel
theorem dX2_rain_170 : decode cX2_rain 170 = .ok (.invokestatic 87, 3) := by decide +kernel
theorem dX2_rain_173 : decode cX2_rain 173 = .ok (.iinc 12 1, 3) := by decide +kernel
theorem dX2_rain_176 : decode cX2_rain 176 = .ok (.goto (-54), 3) := by decide +kernel
theorem dX2_rain_179 : decode cX2_rain 179 = .ok (.lload 5, 2) := by decide +kernel
theorem dX2_rain_181 : decode cX2_rain 181 = .ok (.aload_n 0, 1) := by decide +kernel
theorem dX2_rain_182 : decode cX2_rain 182 = .ok (.getfield 13, 3) := by decide +kernel
theorem dX2_rain_185 : decode cX2_rain 185 = .ok (.iload_n 1, 1) := by decide +kernel
theorem dX2_rain_186 : decode cX2_rain 186 = .ok (.invokestatic 91, 3) := by decide +kernel
theorem dX2_rain_189 : decode cX2_rain 189 = .ok (.bipush 63, 2) := by decide +kernel
theorem dX2_rain_191 : decode cX2_rain 191 = .ok (.if_icmp .ne 8, 3) := by decide +kernel
theorem dX2_rain_194 : decode cX2_rain 194 = .ok (.lload 10, 2) := by decide +kernel
theorem dX2_rain_196 : decode cX2_rain 196 = .ok (.goto 4, 3) := by decide +kernel
theorem dX2_rain_199 : decode cX2_rain 199 = .ok (.lconst 0, 1) := by decide +kernel
theorem dX2_rain_200 : decode cX2_rain 200 = .ok (.ladd, 1) := by decide +kernel
theorem dX2_rain_201 : decode cX2_rain 201 = .ok (.lstore 5, 2) := by decide +kernel
theorem dX2_rain_203 : decode cX2_rain 203 = .ok (.iinc 9 1, 3) := by decide +kernel
theorem dX2_rain_206 : decode cX2_rain 206 = .ok (.goto (-109), 3) := by decide +kernel
theorem dX2_rain_209 : decode cX2_rain 209 = .ok (.lload 5, 2) := by decide +kernel
theorem dX2_rain_211 : decode cX2_rain 211 = .ok (.lload 7, 2) := by decide +kernel
theorem dX2_rain_213 : decode cX2_rain 213 = .ok (.iload 4, 2) := by decide +kernel
theorem dX2_rain_215 : decode cX2_rain 215 = .ok (.invokestatic 212, 3) := by decide +kernel
theorem dX2_rain_218 : decode cX2_rain 218 = .ok (.lreturn, 1) := by decide +kernel
set_option maxRecDepth 20000 in
theorem ggX2_mean_X2_isIn : GoodIn wsX2_mean wsX2_isIn := goodIn_r _ [5] (by decide +kernel) (by decide +kernel)
set_option maxRecDepth 20000 in
theorem gX2_mean_X2_isIn : GoodIn wsX2_mean (va_wsS RX2 40 yX2_isIn wsX2_isIn) := goodIn_app (goodIn_of _ (by decide +kernel)) ggX2_mean_X2_isIn
set_option maxRecDepth 20000 in
theorem ggX2_mean_X2_costOf : GoodIn wsX2_mean wsX2_costOf := goodIn_r _ [9, 1, 10, 11, 4, 12, 13, 14, 15, 16, 17, 18, 35, 36, 37, 38, 39, 40, 41, 42, 43, 44, 45, 46, 47] (by decide +kernel) (by decide +kernel)
set_option maxRecDepth 20000 in
theorem gX2_mean_X2_costOf : GoodIn wsX2_mean (wsV RX2 177 RX2 yX2_costOf wsX2_costOf) := goodIn_app (goodIn_of _ (by decide +kernel)) ggX2_mean_X2_costOf
set_option maxRecDepth 20000 in
theorem ggX2_mean_X2_partOf : GoodIn wsX2_mean wsX2_partOf := goodIn_r _ [21, 22, 23, 4, 24] (by decide +kernel) (by decide +kernel)
set_option maxRecDepth 20000 in
theorem gX2_mean_X2_partOf : GoodIn wsX2_mean (va_wsS RX2 212 yX2_partOf wsX2_partOf) := goodIn_app (goodIn_of _ (by decide +kernel)) ggX2_mean_X2_partOf
set_option maxRecDepth 20000 in
theorem ggX2_mean_X2_noWide : GoodIn wsX2_mean wsX2_noWide := goodIn_r _ [28, 29, 30, 31, 32, 4, 33, 34, 35, 36, 37, 38, 39, 40, 41, 42, 43, 44, 45, 46, 47] (by decide +kernel) (by decide +kernel)
set_option maxRecDepth 20000 in
theorem gX2_mean_X2_noWide : GoodIn wsX2_mean (wsV RX2 208 RX2 yX2_noWide wsX2_noWide) := goodIn_app (goodIn_of _ (by decide +kernel)) ggX2_mean_X2_noWide
theorem dX2_mean_0 : decode cX2_mean 0 = .ok (.iload_n 1, 1) := by decide +kernel
theorem dX2_mean_1 : decode cX2_mean 1 = .ok (.iconst 0, 1) := by decide +kernel
theorem dX2_mean_2 : decode cX2_mean 2 = .ok (.iconst 1, 1) := by decide +kernel
theorem dX2_mean_3 : decode cX2_mean 3 = .ok (.invokestatic 40, 3) := by decide +kernel
theorem dX2_mean_6 : decode cX2_mean 6 = .ok (.ifCond .eq 32, 3) := by decide +kernel
theorem dX2_mean_9 : decode cX2_mean 9 = .ok (.aload_n 0, 1) := by decide +kernel
theorem dX2_mean_10 : decode cX2_mean 10 = .ok (.iconst 1, 1) := by decide +kernel
theorem dX2_mean_11 : decode cX2_mean 11 = .ok (.aload_n 0, 1) := by decide +kernel
theorem dX2_mean_12 : decode cX2_mean 12 = .ok (.getfield 9, 3) := by decide +kernel
theorem dX2_mean_15 : decode cX2_mean 15 = .ok (.iconst 0, 1) := by decide +kernel
theorem dX2_mean_16 : decode cX2_mean 16 = .ok (.iaload, 1) := by decide +kernel
theorem dX2_mean_17 : decode cX2_mean 17 = .ok (.ishl, 1) := by decide +kernel
theorem dX2_mean_18 : decode cX2_mean 18 = .ok (.iconst 1, 1) := by decide +kernel
theorem dX2_mean_19 : decode cX2_mean 19 = .ok (.isub, 1) := by decide +kernel
theorem dX2_mean_20 : decode cX2_mean 20 = .ok (.invokevirtual 177, 3) := by decide +kernel
theorem dX2_mean_23 : decode cX2_mean 23 = .ok (.i2l, 1) := by decide +kernel
theorem dX2_mean_24 : decode cX2_mean 24 = .ok (.aload_n 0, 1) := by decide +kernel
theorem dX2_mean_25 : decode cX2_mean 25 = .ok (.getfield 9, 3) := by decide +kernel
theorem dX2_mean_28 : decode cX2_mean 28 = .ok (.iconst 0, 1) := by decide +kernel
theorem dX2_mean_29 : decode cX2_mean 29 = .ok (.iaload, 1) := by decide +kernel
theorem dX2_mean_30 : decode cX2_mean 30 = .ok (.i2l, 1) := by decide +kernel
theorem dX2_mean_31 : decode cX2_mean 31 = .ok (.iload_n 1, 1) := by decide +kernel
theorem dX2_mean_32 : decode cX2_mean 32 = .ok (.invokestatic 212, 3) := by decide +kernel
theorem dX2_mean_35 : decode cX2_mean 35 = .ok (.goto 9, 3) := by decide +kernel
theorem dX2_mean_38 : decode cX2_mean 38 = .ok (.aload_n 0, 1) := by decide +kernel
theorem dX2_mean_39 : decode cX2_mean 39 = .ok (.bipush (-2), 2) := by decide +kernel
theorem dX2_mean_41 : decode cX2_mean 41 = .ok (.invokevirtual 208, 3) := by decide +kernel
theorem dX2_mean_44 : decode cX2_mean 44 = .ok (.lreturn, 1) := by decide +kernel
set_option maxRecDepth 20000 in
theorem ggX2_isSaidSo_X2_isReader : GoodIn wsX2_isSaidSo wsX2_isReader := goodIn_r _ [8, 9, 10, 11, 7, 12, 22, 23, 24, 25, 26, 27, 28, 29, 30, 31, 32, 33, 34] (by decide +kernel) (by decide +kernel)
set_option maxRecDepth 20000 in
theorem gX2_isSaidSo_X2_isReader : GoodIn wsX2_isSaidSo (wsV RX2 147 RX2 yX2_isReader wsX2_isReader) := goodIn_app (goodIn_of _ (by decide +kernel)) ggX2_isSaidSo_X2_isReader
set_option maxRecDepth 20000 in
theorem ggX2_isSaidSo_X2_wordsOf : GoodIn wsX2_isSaidSo wsX2_wordsOf := goodIn_r _ [15, 16, 17, 7, 18] (by decide +kernel) (by decide +kernel)
set_option maxRecDepth 20000 in
theorem gX2_isSaidSo_X2_wordsOf : GoodIn wsX2_isSaidSo (va_wsS RX2 91 yX2_wordsOf wsX2_wordsOf) := goodIn_app (goodIn_of _ (by decide +kernel)) ggX2_isSaidSo_X2_wordsOf
set_option maxRecDepth 20000 in
theorem ggX2_isSaidSo_X2_bits : GoodIn wsX2_isSaidSo wsX2_bits := goodIn_r _ [21] (by decide +kernel) (by decide +kernel)
set_option maxRecDepth 20000 in
theorem gX2_isSaidSo_X2_bits : GoodIn wsX2_isSaidSo (va_wsS RX2 94 yX2_bits wsX2_bits) := goodIn_app (goodIn_of _ (by decide +kernel)) ggX2_isSaidSo_X2_bits
theorem dX2_isSaidSo_0 : decode cX2_isSaidSo 0 = .ok (.iconst 1, 1) := by decide +kernel
theorem dX2_isSaidSo_1 : decode cX2_isSaidSo 1 = .ok (.istore_n 1, 1) := by decide +kernel
theorem dX2_isSaidSo_2 : decode cX2_isSaidSo 2 = .ok (.iconst 0, 1) := by decide +kernel
theorem dX2_isSaidSo_3 : decode cX2_isSaidSo 3 = .ok (.istore_n 2, 1) := by decide +kernel
theorem dX2_isSaidSo_4 : decode cX2_isSaidSo 4 = .ok (.iload_n 2, 1) := by decide +kernel
theorem dX2_isSaidSo_5 : decode cX2_isSaidSo 5 = .ok (.aload_n 0, 1) := by decide +kernel
theorem dX2_isSaidSo_6 : decode cX2_isSaidSo 6 = .ok (.getfield 216, 3) := by decide +kernel
theorem dX2_isSaidSo_9 : decode cX2_isSaidSo 9 = .ok (.if_icmp .ge 45, 3) := by decide +kernel
theorem dX2_isSaidSo_12 : decode cX2_isSaidSo 12 = .ok (.iload_n 1, 1) := by decide +kernel
theorem dX2_isSaidSo_13 : decode cX2_isSaidSo 13 = .ok (.aload_n 0, 1) := by decide +kernel
theorem dX2_isSaidSo_14 : decode cX2_isSaidSo 14 = .ok (.iload_n 2, 1) := by decide +kernel
theorem dX2_isSaidSo_15 : decode cX2_isSaidSo 15 = .ok (.invokevirtual 147, 3) := by decide +kernel
theorem dX2_isSaidSo_18 : decode cX2_isSaidSo 18 = .ok (.ifCond .eq 27, 3) := by decide +kernel
theorem dX2_isSaidSo_21 : decode cX2_isSaidSo 21 = .ok (.aload_n 0, 1) := by decide +kernel
theorem dX2_isSaidSo_22 : decode cX2_isSaidSo 22 = .ok (.getfield 13, 3) := by decide +kernel
theorem dX2_isSaidSo_25 : decode cX2_isSaidSo 25 = .ok (.iload_n 2, 1) := by decide +kernel
theorem dX2_isSaidSo_26 : decode cX2_isSaidSo 26 = .ok (.invokestatic 91, 3) := by decide +kernel
theorem dX2_isSaidSo_29 : decode cX2_isSaidSo 29 = .ok (.invokestatic 94, 3) := by decide +kernel
theorem dX2_isSaidSo_32 : decode cX2_isSaidSo 32 = .ok (.aload_n 0, 1) := by decide +kernel
theorem dX2_isSaidSo_33 : decode cX2_isSaidSo 33 = .ok (.getfield 25, 3) := by decide +kernel
theorem dX2_isSaidSo_36 : decode cX2_isSaidSo 36 = .ok (.iload_n 2, 1) := by decide +kernel
theorem dX2_isSaidSo_37 : decode cX2_isSaidSo 37 = .ok (.iaload, 1) := by decide +kernel
theorem dX2_isSaidSo_38 : decode cX2_isSaidSo 38 = .ok (.if_icmp .ne 7, 3) := by decide +kernel
theorem dX2_isSaidSo_41 : decode cX2_isSaidSo 41 = .ok (.iconst 1, 1) := by decide +kernel
theorem dX2_isSaidSo_42 : decode cX2_isSaidSo 42 = .ok (.goto 4, 3) := by decide +kernel
theorem dX2_isSaidSo_45 : decode cX2_isSaidSo 45 = .ok (.iconst 0, 1) := by decide +kernel
theorem dX2_isSaidSo_46 : decode cX2_isSaidSo 46 = .ok (.iand, 1) := by decide +kernel
theorem dX2_isSaidSo_47 : decode cX2_isSaidSo 47 = .ok (.istore_n 1, 1) := by decide +kernel
theorem dX2_isSaidSo_48 : decode cX2_isSaidSo 48 = .ok (.iinc 2 1, 3) := by decide +kernel
theorem dX2_isSaidSo_51 : decode cX2_isSaidSo 51 = .ok (.goto (-47), 3) := by decide +kernel
theorem dX2_isSaidSo_54 : decode cX2_isSaidSo 54 = .ok (.iload_n 1, 1) := by decide +kernel
theorem dX2_isSaidSo_55 : decode cX2_isSaidSo 55 = .ok (.ireturn, 1) := by decide +kernel
set_option maxRecDepth 20000 in
theorem ggX2_whatSaid_X2_isRocket : GoodIn wsX2_whatSaid wsX2_isRocket := goodIn_r _ [7, 1, 8, 9, 6, 10, 59, 60, 61, 62, 63, 64, 65, 66, 67, 68, 69, 70, 71] (by decide +kernel) (by decide +kernel)
set_option maxRecDepth 20000 in
theorem gX2_whatSaid_X2_isRocket : GoodIn wsX2_whatSaid (wsV RX2 124 RX2 yX2_isRocket wsX2_isRocket) := goodIn_app (goodIn_of _ (by decide +kernel)) ggX2_whatSaid_X2_isRocket
set_option maxRecDepth 20000 in
theorem ggX2_whatSaid_X2_no : GoodIn wsX2_whatSaid wsX2_no := goodIn_r _ [14, 15, 59, 60, 61, 62, 63, 64, 65, 66, 67, 68, 69, 70, 71] (by decide +kernel) (by decide +kernel)
set_option maxRecDepth 20000 in
theorem gX2_whatSaid_X2_no : GoodIn wsX2_whatSaid (wsV RX2 36 RX2 yX2_no wsX2_no) := goodIn_app (goodIn_of _ (by decide +kernel)) ggX2_whatSaid_X2_no
set_option maxRecDepth 20000 in
theorem ggX2_whatSaid_X2_isIn : GoodIn wsX2_whatSaid wsX2_isIn := goodIn_r _ [10] (by decide +kernel) (by decide +kernel)
set_option maxRecDepth 20000 in
theorem gX2_whatSaid_X2_isIn : GoodIn wsX2_whatSaid (va_wsS RX2 40 yX2_isIn wsX2_isIn) := goodIn_app (goodIn_of _ (by decide +kernel)) ggX2_whatSaid_X2_isIn
set_option maxRecDepth 20000 in
theorem ggX2_whatSaid_X2_copies : GoodIn wsX2_whatSaid wsX2_copies := goodIn_r _ [18] (by decide +kernel) (by decide +kernel)
set_option maxRecDepth 20000 in
theorem gX2_whatSaid_X2_copies : GoodIn wsX2_whatSaid (va_wsS RX2 134 yX2_copies wsX2_copies) := goodIn_app (goodIn_of _ (by decide +kernel)) ggX2_whatSaid_X2_copies
set_option maxRecDepth 20000 in
theorem ggX2_whatSaid_X2_ofR : GoodIn wsX2_whatSaid wsX2_ofR := goodIn_r _ [21] (by decide +kernel) (by decide +kernel)
set_option maxRecDepth 20000 in
theorem gX2_whatSaid_X2_ofR : GoodIn wsX2_whatSaid (va_wsS RX2 44 yX2_ofR wsX2_ofR) := goodIn_app (goodIn_of _ (by decide +kernel)) ggX2_whatSaid_X2_ofR
set_option maxRecDepth 20000 in
theorem ggX2_whatSaid_X2_bursts : GoodIn wsX2_whatSaid wsX2_bursts := goodIn_r _ [24, 25, 26, 6, 27, 28, 29, 30, 31, 32, 33, 34, 35, 36, 19, 20, 21, 37, 38, 39, 40, 41, 42] (by decide +kernel) (by decide +kernel)
set_option maxRecDepth 20000 in
theorem gX2_whatSaid_X2_bursts : GoodIn wsX2_whatSaid (va_wsS RX2 72 yX2_bursts wsX2_bursts) := goodIn_app (goodIn_of _ (by decide +kernel)) ggX2_whatSaid_X2_bursts
set_option maxRecDepth 20000 in
theorem ggX2_whatSaid_X2_isSaidSo : GoodIn wsX2_whatSaid wsX2_isSaidSo := goodIn_r _ [46, 47, 2, 48, 49, 50, 51, 6, 52, 1, 8, 9, 10, 53, 54, 55, 31, 32, 33, 56, 57, 58, 59, 60, 61, 62, 63, 64, 65, 66, 67, 68, 69, 70, 71] (by decide +kernel) (by decide +kernel)
set_option maxRecDepth 20000 in
theorem gX2_whatSaid_X2_isSaidSo : GoodIn wsX2_whatSaid (wsV RX2 219 RX2 yX2_isSaidSo wsX2_isSaidSo) := goodIn_app (goodIn_of _ (by decide +kernel)) ggX2_whatSaid_X2_isSaidSo
theorem dX2_whatSaid_0 : decode cX2_whatSaid 0 = .ok (.aload_n 0, 1) := by decide +kernel
theorem dX2_whatSaid_1 : decode cX2_whatSaid 1 = .ok (.iload_n 1, 1) := by decide +kernel
theorem dX2_whatSaid_2 : decode cX2_whatSaid 2 = .ok (.invokevirtual 124, 3) := by decide +kernel
theorem dX2_whatSaid_5 : decode cX2_whatSaid 5 = .ok (.ifCond .ne 9, 3) := by decide +kernel
theorem dX2_whatSaid_8 : decode cX2_whatSaid 8 = .ok (.aload_n 0, 1) := by decide +kernel
theorem dX2_whatSaid_9 : decode cX2_whatSaid 9 = .ok (.iconst (-1), 1) := by decide +kernel
theorem dX2_whatSaid_10 : decode cX2_whatSaid 10 = .ok (.invokevirtual 36, 3) := by decide +kernel
theorem dX2_whatSaid_13 : decode cX2_whatSaid 13 = .ok (.ireturn, 1) := by decide +kernel
theorem dX2_whatSaid_14 : decode cX2_whatSaid 14 = .ok (.iload_n 2, 1) := by decide +kernel
theorem dX2_whatSaid_15 : decode cX2_whatSaid 15 = .ok (.iconst 0, 1) := by decide +kernel
theorem dX2_whatSaid_16 : decode cX2_whatSaid 16 = .ok (.iconst 1, 1) := by decide +kernel
theorem dX2_whatSaid_17 : decode cX2_whatSaid 17 = .ok (.invokestatic 40, 3) := by decide +kernel
theorem dX2_whatSaid_20 : decode cX2_whatSaid 20 = .ok (.ifCond .ne 10, 3) := by decide +kernel
theorem dX2_whatSaid_23 : decode cX2_whatSaid 23 = .ok (.aload_n 0, 1) := by decide +kernel
theorem dX2_whatSaid_24 : decode cX2_whatSaid 24 = .ok (.bipush (-2), 2) := by decide +kernel
theorem dX2_whatSaid_26 : decode cX2_whatSaid 26 = .ok (.invokevirtual 36, 3) := by decide +kernel
theorem dX2_whatSaid_29 : decode cX2_whatSaid 29 = .ok (.ireturn, 1) := by decide +kernel
theorem dX2_whatSaid_30 : decode cX2_whatSaid 30 = .ok (.iconst 0, 1) := by decide +kernel
theorem dX2_whatSaid_31 : decode cX2_whatSaid 31 = .ok (.istore_n 3, 1) := by decide +kernel
theorem dX2_whatSaid_32 : decode cX2_whatSaid 32 = .ok (.iconst 0, 1) := by decide +kernel
theorem dX2_whatSaid_33 : decode cX2_whatSaid 33 = .ok (.istore 4, 2) := by decide +kernel
theorem dX2_whatSaid_35 : decode cX2_whatSaid 35 = .ok (.iload 4, 2) := by decide +kernel
theorem dX2_whatSaid_37 : decode cX2_whatSaid 37 = .ok (.iload_n 2, 1) := by decide +kernel
theorem dX2_whatSaid_38 : decode cX2_whatSaid 38 = .ok (.ifCond .ne 8, 3) := by decide +kernel
theorem dX2_whatSaid_41 : decode cX2_whatSaid 41 = .ok (.bipush 6, 2) := by decide +kernel
theorem dX2_whatSaid_43 : decode cX2_whatSaid 43 = .ok (.goto 5, 3) := by decide +kernel
theorem dX2_whatSaid_46 : decode cX2_whatSaid 46 = .ok (.bipush 6, 2) := by decide +kernel
theorem dX2_whatSaid_48 : decode cX2_whatSaid 48 = .ok (.if_icmp .ge 67, 3) := by decide +kernel
theorem dX2_whatSaid_51 : decode cX2_whatSaid 51 = .ok (.aload_n 0, 1) := by decide +kernel
theorem dX2_whatSaid_52 : decode cX2_whatSaid 52 = .ok (.getfield 9, 3) := by decide +kernel
theorem dX2_whatSaid_55 : decode cX2_whatSaid 55 = .ok (.aload_n 0, 1) := by decide +kernel
theorem dX2_whatSaid_56 : decode cX2_whatSaid 56 = .ok (.getfield 13, 3) := by decide +kernel
theorem dX2_whatSaid_59 : decode cX2_whatSaid 59 = .ok (.invokestatic 134, 3) := by decide +kernel
theorem dX2_whatSaid_62 : decode cX2_whatSaid 62 = .ok (.aload_n 0, 1) := by decide +kernel
theorem dX2_whatSaid_63 : decode cX2_whatSaid 63 = .ok (.getfield 13, 3) := by decide +kernel
theorem dX2_whatSaid_66 : decode cX2_whatSaid 66 = .ok (.iload_n 1, 1) := by decide +kernel
theorem dX2_whatSaid_67 : decode cX2_whatSaid 67 = .ok (.iload_n 2, 1) := by decide +kernel
theorem dX2_whatSaid_68 : decode cX2_whatSaid 68 = .ok (.ifCond .ne 7, 3) := by decide +kernel
theorem dX2_whatSaid_71 : decode cX2_whatSaid 71 = .ok (.iconst 2, 1) := by decide +kernel
theorem dX2_whatSaid_72 : decode cX2_whatSaid 72 = .ok (.goto 4, 3) := by decide +kernel
theorem dX2_whatSaid_75 : decode cX2_whatSaid 75 = .ok (.iconst 0, 1) := by decide +kernel
theorem dX2_whatSaid_76 : decode cX2_whatSaid 76 = .ok (.invokestatic 44, 3) := by decide +kernel
theorem dX2_whatSaid_79 : decode cX2_whatSaid 79 = .ok (.iload 4, 2) := by decide +kernel
theorem dX2_whatSaid_81 : decode cX2_whatSaid 81 = .ok (.iastore, 1) := by decide +kernel
theorem dX2_whatSaid_82 : decode cX2_whatSaid 82 = .ok (.aload_n 0, 1) := by decide +kernel
theorem dX2_whatSaid_83 : decode cX2_whatSaid 83 = .ok (.getfield 13, 3) := by decide +kernel
theorem dX2_whatSaid_86 : decode cX2_whatSaid 86 = .ok (.iload_n 1, 1) := by decide +kernel
theorem dX2_whatSaid_87 : decode cX2_whatSaid 87 = .ok (.iconst (-1), 1) := by decide +kernel
theorem dX2_whatSaid_88 : decode cX2_whatSaid 88 = .ok (.invokestatic 72, 3) := by decide +kernel
theorem dX2_whatSaid_91 : decode cX2_whatSaid 91 = .ok (.iload_n 3, 1) := by decide +kernel
theorem dX2_whatSaid_92 : decode cX2_whatSaid 92 = .ok (.aload_n 0, 1) := by decide +kernel
theorem dX2_whatSaid_93 : decode cX2_whatSaid 93 = .ok (.invokevirtual 219, 3) := by decide +kernel
theorem dX2_whatSaid_96 : decode cX2_whatSaid 96 = .ok (.ifCond .eq 10, 3) := by decide +kernel
theorem dX2_whatSaid_99 : decode cX2_whatSaid 99 = .ok (.iconst 1, 1) := by decide +kernel
theorem dX2_whatSaid_100 : decode cX2_whatSaid 100 = .ok (.iload 4, 2) := by decide +kernel
theorem dX2_whatSaid_102 : decode cX2_whatSaid 102 = .ok (.ishl, 1) := by decide +kernel
theorem dX2_whatSaid_103 : decode cX2_whatSaid 103 = .ok (.goto 4, 3) := by decide +kernel
theorem dX2_whatSaid_106 : decode cX2_whatSaid 106 = .ok (.iconst 0, 1) := by decide +kernel
theorem dX2_whatSaid_107 : decode cX2_whatSaid 107 = .ok (.ior, 1) := by decide +kernel
theorem dX2_whatSaid_108 : decode cX2_whatSaid 108 = .ok (.istore_n 3, 1) := by decide +kernel
theorem dX2_whatSaid_109 : decode cX2_whatSaid 109 = .ok (.iinc 4 1, 3) := by decide +kernel
theorem dX2_whatSaid_112 : decode cX2_whatSaid 112 = .ok (.goto (-77), 3) := by decide +kernel
theorem dX2_whatSaid_115 : decode cX2_whatSaid 115 = .ok (.iload_n 3, 1) := by decide +kernel
theorem dX2_whatSaid_116 : decode cX2_whatSaid 116 = .ok (.ireturn, 1) := by decide +kernel
set_option maxRecDepth 20000 in
theorem ggX2_row_X2_wrongBy : GoodIn wsX2_row wsX2_wrongBy := goodIn_r _ [6] (by decide +kernel) (by decide +kernel)
set_option maxRecDepth 20000 in
theorem gX2_row_X2_wrongBy : GoodIn wsX2_row (va_wsS RX2 153 yX2_wrongBy wsX2_wrongBy) := goodIn_app (goodIn_of _ (by decide +kernel)) ggX2_row_X2_wrongBy
set_option maxRecDepth 20000 in
theorem ggX2_row_X2_no : GoodIn wsX2_row wsX2_no := goodIn_r _ [10, 11, 12, 13, 14, 15, 16, 17, 18, 19, 20, 21, 22, 23, 24] (by decide +kernel) (by decide +kernel)
set_option maxRecDepth 20000 in
theorem gX2_row_X2_no : GoodIn wsX2_row (wsV RX2 36 RX2 yX2_no wsX2_no) := goodIn_app (goodIn_of _ (by decide +kernel)) ggX2_row_X2_no
theorem dX2_row_0 : decode cX2_row 0 = .ok (.iload_n 1, 1) := by decide +kernel
theorem dX2_row_1 : decode cX2_row 1 = .ok (.iconst 0, 1) := by decide +kernel
theorem dX2_row_2 : decode cX2_row 2 = .ok (.bipush 99, 2) := by decide +kernel
theorem dX2_row_4 : decode cX2_row 4 = .ok (.invokestatic 153, 3) := by decide +kernel
theorem dX2_row_7 : decode cX2_row 7 = .ok (.istore_n 2, 1) := by decide +kernel
theorem dX2_row_8 : decode cX2_row 8 = .ok (.iload_n 2, 1) := by decide +kernel
theorem dX2_row_9 : decode cX2_row 9 = .ok (.ifCond .ne 15, 3) := by decide +kernel
theorem dX2_row_12 : decode cX2_row 12 = .ok (.aload_n 0, 1) := by decide +kernel
theorem dX2_row_13 : decode cX2_row 13 = .ok (.getfield 216, 3) := by decide +kernel
theorem dX2_row_16 : decode cX2_row 16 = .ok (.bipush 16, 2) := by decide +kernel
theorem dX2_row_18 : decode cX2_row 18 = .ok (.if_icmp .ne 6, 3) := by decide +kernel
theorem dX2_row_21 : decode cX2_row 21 = .ok (.bipush (-6), 2) := by decide +kernel
theorem dX2_row_23 : decode cX2_row 23 = .ok (.istore_n 2, 1) := by decide +kernel
theorem dX2_row_24 : decode cX2_row 24 = .ok (.iload_n 2, 1) := by decide +kernel
theorem dX2_row_25 : decode cX2_row 25 = .ok (.ifCond .eq 9, 3) := by decide +kernel
theorem dX2_row_28 : decode cX2_row 28 = .ok (.aload_n 0, 1) := by decide +kernel
theorem dX2_row_29 : decode cX2_row 29 = .ok (.iload_n 2, 1) := by decide +kernel
theorem dX2_row_30 : decode cX2_row 30 = .ok (.invokevirtual 36, 3) := by decide +kernel
theorem dX2_row_33 : decode cX2_row 33 = .ok (.ireturn, 1) := by decide +kernel
theorem dX2_row_34 : decode cX2_row 34 = .ok (.aload_n 0, 1) := by decide +kernel
theorem dX2_row_35 : decode cX2_row 35 = .ok (.getfield 25, 3) := by decide +kernel
theorem dX2_row_38 : decode cX2_row 38 = .ok (.aload_n 0, 1) := by decide +kernel
theorem dX2_row_39 : decode cX2_row 39 = .ok (.getfield 216, 3) := by decide +kernel
theorem dX2_row_42 : decode cX2_row 42 = .ok (.iload_n 1, 1) := by decide +kernel
theorem dX2_row_43 : decode cX2_row 43 = .ok (.iastore, 1) := by decide +kernel
theorem dX2_row_44 : decode cX2_row 44 = .ok (.aload_n 0, 1) := by decide +kernel
theorem dX2_row_45 : decode cX2_row 45 = .ok (.dup, 1) := by decide +kernel
theorem dX2_row_46 : decode cX2_row 46 = .ok (.getfield 216, 3) := by decide +kernel
theorem dX2_row_49 : decode cX2_row 49 = .ok (.iconst 1, 1) := by decide +kernel
theorem dX2_row_50 : decode cX2_row 50 = .ok (.iadd, 1) := by decide +kernel
theorem dX2_row_51 : decode cX2_row 51 = .ok (.putfield 216, 3) := by decide +kernel
theorem dX2_row_54 : decode cX2_row 54 = .ok (.aload_n 0, 1) := by decide +kernel
theorem dX2_row_55 : decode cX2_row 55 = .ok (.getfield 216, 3) := by decide +kernel
theorem dX2_row_58 : decode cX2_row 58 = .ok (.ireturn, 1) := by decide +kernel
set_option maxRecDepth 20000 in
theorem ggX2_judge_X2_copies : GoodIn wsX2_judge wsX2_copies := goodIn_r _ [8] (by decide +kernel) (by decide +kernel)
set_option maxRecDepth 20000 in
theorem gX2_judge_X2_copies : GoodIn wsX2_judge (va_wsS RX2 134 yX2_copies wsX2_copies) := goodIn_app (goodIn_of _ (by decide +kernel)) ggX2_judge_X2_copies
set_option maxRecDepth 20000 in
theorem ggX2_judge_X2_night : GoodIn wsX2_judge wsX2_night := goodIn_r _ [11, 12, 13, 7, 14, 15, 16, 17, 18, 19, 20, 21, 22, 23, 24, 25, 26, 27, 28, 29, 30, 31, 32, 33, 34, 35, 36, 37, 38, 39, 40, 41, 42, 43, 44, 45, 46, 47] (by decide +kernel) (by decide +kernel)
set_option maxRecDepth 20000 in
theorem gX2_judge_X2_night : GoodIn wsX2_judge (va_wsS RX2 87 yX2_night wsX2_night) := goodIn_app (goodIn_of _ (by decide +kernel)) ggX2_judge_X2_night
theorem dX2_judge_0 : decode cX2_judge 0 = .ok (.aload_n 0, 1) := by decide +kernel
theorem dX2_judge_1 : decode cX2_judge 1 = .ok (.getfield 216, 3) := by decide +kernel
theorem dX2_judge_4 : decode cX2_judge 4 = .ok (.istore_n 1, 1) := by decide +kernel
theorem dX2_judge_5 : decode cX2_judge 5 = .ok (.aload_n 0, 1) := by decide +kernel
theorem dX2_judge_6 : decode cX2_judge 6 = .ok (.iconst 0, 1) := by decide +kernel
theorem dX2_judge_7 : decode cX2_judge 7 = .ok (.putfield 216, 3) := by decide +kernel
theorem dX2_judge_10 : decode cX2_judge 10 = .ok (.aload_n 0, 1) := by decide +kernel
theorem dX2_judge_11 : decode cX2_judge 11 = .ok (.getfield 9, 3) := by decide +kernel
theorem dX2_judge_14 : decode cX2_judge 14 = .ok (.aload_n 0, 1) := by decide +kernel
theorem dX2_judge_15 : decode cX2_judge 15 = .ok (.getfield 13, 3) := by decide +kernel
theorem dX2_judge_18 : decode cX2_judge 18 = .ok (.invokestatic 134, 3) := by decide +kernel
theorem dX2_judge_21 : decode cX2_judge 21 = .ok (.iconst 0, 1) := by decide +kernel
theorem dX2_judge_22 : decode cX2_judge 22 = .ok (.istore_n 2, 1) := by decide +kernel
theorem dX2_judge_23 : decode cX2_judge 23 = .ok (.iload_n 2, 1) := by decide +kernel
theorem dX2_judge_24 : decode cX2_judge 24 = .ok (.iload_n 1, 1) := by decide +kernel
theorem dX2_judge_25 : decode cX2_judge 25 = .ok (.if_icmp .ge 50, 3) := by decide +kernel
theorem dX2_judge_28 : decode cX2_judge 28 = .ok (.aload_n 0, 1) := by decide +kernel
theorem dX2_judge_29 : decode cX2_judge 29 = .ok (.getfield 13, 3) := by decide +kernel
theorem dX2_judge_32 : decode cX2_judge 32 = .ok (.iconst 3, 1) := by decide +kernel
theorem dX2_judge_33 : decode cX2_judge 33 = .ok (.iaload, 1) := by decide +kernel
theorem dX2_judge_34 : decode cX2_judge 34 = .ok (.bipush 99, 2) := by decide +kernel
theorem dX2_judge_36 : decode cX2_judge 36 = .ok (.if_icmp .le 8, 3) := by decide +kernel
theorem dX2_judge_39 : decode cX2_judge 39 = .ok (.bipush 99, 2) := by decide +kernel
theorem dX2_judge_41 : decode cX2_judge 41 = .ok (.goto 9, 3) := by decide +kernel
theorem dX2_judge_44 : decode cX2_judge 44 = .ok (.aload_n 0, 1) := by decide +kernel
theorem dX2_judge_45 : decode cX2_judge 45 = .ok (.getfield 13, 3) := by decide +kernel
theorem dX2_judge_48 : decode cX2_judge 48 = .ok (.iconst 3, 1) := by decide +kernel
theorem dX2_judge_49 : decode cX2_judge 49 = .ok (.iaload, 1) := by decide +kernel
theorem dX2_judge_50 : decode cX2_judge 50 = .ok (.aload_n 0, 1) := by decide +kernel
theorem dX2_judge_51 : decode cX2_judge 51 = .ok (.getfield 25, 3) := by decide +kernel
theorem dX2_judge_54 : decode cX2_judge 54 = .ok (.iload_n 2, 1) := by decide +kernel
theorem dX2_judge_55 : decode cX2_judge 55 = .ok (.iaload, 1) := by decide +kernel
theorem dX2_judge_56 : decode cX2_judge 56 = .ok (.if_icmp .eq 5, 3) := by decide +kernel
theorem dX2_judge_59 : decode cX2_judge 59 = .ok (.iload_n 2, 1) := by decide +kernel
theorem dX2_judge_60 : decode cX2_judge 60 = .ok (.ireturn, 1) := by decide +kernel
theorem dX2_judge_61 : decode cX2_judge 61 = .ok (.aload_n 0, 1) := by decide +kernel
theorem dX2_judge_62 : decode cX2_judge 62 = .ok (.getfield 13, 3) := by decide +kernel
theorem dX2_judge_65 : decode cX2_judge 65 = .ok (.iconst (-1), 1) := by decide +kernel
theorem dX2_judge_66 : decode cX2_judge 66 = .ok (.invokestatic 87, 3) := by decide +kernel
theorem dX2_judge_69 : decode cX2_judge 69 = .ok (.iinc 2 1, 3) := by decide +kernel
theorem dX2_judge_72 : decode cX2_judge 72 = .ok (.goto (-49), 3) := by decide +kernel
theorem dX2_judge_75 : decode cX2_judge 75 = .ok (.bipush (-9), 2) := by decide +kernel
theorem dX2_judge_77 : decode cX2_judge 77 = .ok (.ireturn, 1) := by decide +kernel
theorem dX2_clear_0 : decode cX2_clear 0 = .ok (.aload_n 0, 1) := by decide +kernel
theorem dX2_clear_1 : decode cX2_clear 1 = .ok (.getfield 216, 3) := by decide +kernel
theorem dX2_clear_4 : decode cX2_clear 4 = .ok (.istore_n 1, 1) := by decide +kernel
theorem dX2_clear_5 : decode cX2_clear 5 = .ok (.aload_n 0, 1) := by decide +kernel
theorem dX2_clear_6 : decode cX2_clear 6 = .ok (.iconst 0, 1) := by decide +kernel
theorem dX2_clear_7 : decode cX2_clear 7 = .ok (.putfield 216, 3) := by decide +kernel
theorem dX2_clear_10 : decode cX2_clear 10 = .ok (.iload_n 1, 1) := by decide +kernel
theorem dX2_clear_11 : decode cX2_clear 11 = .ok (.ireturn, 1) := by decide +kernel
theorem dX2_drawn_0 : decode cX2_drawn 0 = .ok (.aload_n 0, 1) := by decide +kernel
theorem dX2_drawn_1 : decode cX2_drawn 1 = .ok (.aload_n 0, 1) := by decide +kernel
theorem dX2_drawn_2 : decode cX2_drawn 2 = .ok (.getfield 222, 3) := by decide +kernel
theorem dX2_drawn_5 : decode cX2_drawn 5 = .ok (.ldc 225, 2) := by decide +kernel
theorem dX2_drawn_7 : decode cX2_drawn 7 = .ok (.imul, 1) := by decide +kernel
theorem dX2_drawn_8 : decode cX2_drawn 8 = .ok (.ldc 226, 2) := by decide +kernel
theorem dX2_drawn_10 : decode cX2_drawn 10 = .ok (.iadd, 1) := by decide +kernel
theorem dX2_drawn_11 : decode cX2_drawn 11 = .ok (.putfield 222, 3) := by decide +kernel
theorem dX2_drawn_14 : decode cX2_drawn 14 = .ok (.aload_n 0, 1) := by decide +kernel
theorem dX2_drawn_15 : decode cX2_drawn 15 = .ok (.getfield 222, 3) := by decide +kernel
theorem dX2_drawn_18 : decode cX2_drawn 18 = .ok (.ldc 227, 2) := by decide +kernel
theorem dX2_drawn_20 : decode cX2_drawn 20 = .ok (.iand, 1) := by decide +kernel
theorem dX2_drawn_21 : decode cX2_drawn 21 = .ok (.sipush 256, 3) := by decide +kernel
theorem dX2_drawn_24 : decode cX2_drawn 24 = .ok (.idiv, 1) := by decide +kernel
theorem dX2_drawn_25 : decode cX2_drawn 25 = .ok (.iload_n 1, 1) := by decide +kernel
theorem dX2_drawn_26 : decode cX2_drawn 26 = .ok (.irem, 1) := by decide +kernel
theorem dX2_drawn_27 : decode cX2_drawn 27 = .ok (.ireturn, 1) := by decide +kernel
set_option maxRecDepth 20000 in
theorem ggX2_lots_X2_no : GoodIn wsX2_lots wsX2_no := goodIn_r _ [8, 9, 74, 75, 76, 77, 78, 79, 80, 81, 82, 83, 84, 85, 86] (by decide +kernel) (by decide +kernel)
set_option maxRecDepth 20000 in
theorem gX2_lots_X2_no : GoodIn wsX2_lots (wsV RX2 36 RX2 yX2_no wsX2_no) := goodIn_app (goodIn_of _ (by decide +kernel)) ggX2_lots_X2_no
set_option maxRecDepth 20000 in
theorem ggX2_lots_X2_isIn : GoodIn wsX2_lots wsX2_isIn := goodIn_r _ [12] (by decide +kernel) (by decide +kernel)
set_option maxRecDepth 20000 in
theorem gX2_lots_X2_isIn : GoodIn wsX2_lots (va_wsS RX2 40 yX2_isIn wsX2_isIn) := goodIn_app (goodIn_of _ (by decide +kernel)) ggX2_lots_X2_isIn
set_option maxRecDepth 20000 in
theorem ggX2_lots_X2_copies : GoodIn wsX2_lots wsX2_copies := goodIn_r _ [15] (by decide +kernel) (by decide +kernel)
set_option maxRecDepth 20000 in
theorem gX2_lots_X2_copies : GoodIn wsX2_lots (va_wsS RX2 134 yX2_copies wsX2_copies) := goodIn_app (goodIn_of _ (by decide +kernel)) ggX2_lots_X2_copies
set_option maxRecDepth 20000 in
theorem ggX2_lots_X2_drawn : GoodIn wsX2_lots wsX2_drawn := goodIn_r _ [19, 1, 20, 21, 22, 74, 75, 76, 77, 78, 79, 80, 81, 82, 83, 84, 85, 86] (by decide +kernel) (by decide +kernel)
set_option maxRecDepth 20000 in
theorem gX2_lots_X2_drawn : GoodIn wsX2_lots (wsV RX2 228 RX2 yX2_drawn wsX2_drawn) := goodIn_app (goodIn_of _ (by decide +kernel)) ggX2_lots_X2_drawn
set_option maxRecDepth 20000 in
theorem ggX2_lots_X2_night : GoodIn wsX2_lots wsX2_night := goodIn_r _ [25, 26, 27, 7, 28, 29, 30, 31, 32, 33, 34, 35, 36, 37, 38, 39, 40, 41, 42, 43, 44, 45, 46, 47, 48, 49, 50, 51, 52, 53, 54, 55, 56, 57, 58, 59, 60, 61] (by decide +kernel) (by decide +kernel)
set_option maxRecDepth 20000 in
theorem gX2_lots_X2_night : GoodIn wsX2_lots (va_wsS RX2 87 yX2_night wsX2_night) := goodIn_app (goodIn_of _ (by decide +kernel)) ggX2_lots_X2_night
set_option maxRecDepth 20000 in
theorem ggX2_lots_X2_wholeOnes : GoodIn wsX2_lots wsX2_wholeOnes := goodIn_r _ [64, 65, 66, 7, 67, 26, 27, 28] (by decide +kernel) (by decide +kernel)
set_option maxRecDepth 20000 in
theorem gX2_lots_X2_wholeOnes : GoodIn wsX2_lots (va_wsS RX2 180 yX2_wholeOnes wsX2_wholeOnes) := goodIn_app (goodIn_of _ (by decide +kernel)) ggX2_lots_X2_wholeOnes
set_option maxRecDepth 20000 in
theorem ggX2_lots_X2_allWords : GoodIn wsX2_lots wsX2_allWords := goodIn_r _ [70, 65, 66, 7, 67, 26, 27, 28, 71, 72, 73] (by decide +kernel) (by decide +kernel)
set_option maxRecDepth 20000 in
theorem gX2_lots_X2_allWords : GoodIn wsX2_lots (va_wsS RX2 183 yX2_allWords wsX2_allWords) := goodIn_app (goodIn_of _ (by decide +kernel)) ggX2_lots_X2_allWords
theorem dX2_lots_0 : decode cX2_lots 0 = .ok (.iload_n 1, 1) := by decide +kernel
theorem dX2_lots_1 : decode cX2_lots 1 = .ok (.iconst 1, 1) := by decide +kernel
theorem dX2_lots_2 : decode cX2_lots 2 = .ok (.if_icmp .ge 10, 3) := by decide +kernel
theorem dX2_lots_5 : decode cX2_lots 5 = .ok (.aload_n 0, 1) := by decide +kernel
theorem dX2_lots_6 : decode cX2_lots 6 = .ok (.bipush (-4), 2) := by decide +kernel
theorem dX2_lots_8 : decode cX2_lots 8 = .ok (.invokevirtual 36, 3) := by decide +kernel
theorem dX2_lots_11 : decode cX2_lots 11 = .ok (.ireturn, 1) := by decide +kernel
theorem dX2_lots_12 : decode cX2_lots 12 = .ok (.iload_n 1, 1) := by decide +kernel
theorem dX2_lots_13 : decode cX2_lots 13 = .ok (.bipush 20, 2) := by decide +kernel
theorem dX2_lots_15 : decode cX2_lots 15 = .ok (.if_icmp .le 10, 3) := by decide +kernel
theorem dX2_lots_18 : decode cX2_lots 18 = .ok (.aload_n 0, 1) := by decide +kernel
theorem dX2_lots_19 : decode cX2_lots 19 = .ok (.bipush (-6), 2) := by decide +kernel
theorem dX2_lots_21 : decode cX2_lots 21 = .ok (.invokevirtual 36, 3) := by decide +kernel
theorem dX2_lots_24 : decode cX2_lots 24 = .ok (.ireturn, 1) := by decide +kernel
theorem dX2_lots_25 : decode cX2_lots 25 = .ok (.iload_n 3, 1) := by decide +kernel
theorem dX2_lots_26 : decode cX2_lots 26 = .ok (.iconst 0, 1) := by decide +kernel
theorem dX2_lots_27 : decode cX2_lots 27 = .ok (.iconst 1, 1) := by decide +kernel
theorem dX2_lots_28 : decode cX2_lots 28 = .ok (.invokestatic 40, 3) := by decide +kernel
theorem dX2_lots_31 : decode cX2_lots 31 = .ok (.ifCond .ne 10, 3) := by decide +kernel
theorem dX2_lots_34 : decode cX2_lots 34 = .ok (.aload_n 0, 1) := by decide +kernel
theorem dX2_lots_35 : decode cX2_lots 35 = .ok (.bipush (-2), 2) := by decide +kernel
theorem dX2_lots_37 : decode cX2_lots 37 = .ok (.invokevirtual 36, 3) := by decide +kernel
theorem dX2_lots_40 : decode cX2_lots 40 = .ok (.ireturn, 1) := by decide +kernel
theorem dX2_lots_41 : decode cX2_lots 41 = .ok (.aload_n 0, 1) := by decide +kernel
theorem dX2_lots_42 : decode cX2_lots 42 = .ok (.iload_n 2, 1) := by decide +kernel
theorem dX2_lots_43 : decode cX2_lots 43 = .ok (.putfield 222, 3) := by decide +kernel
theorem dX2_lots_46 : decode cX2_lots 46 = .ok (.iconst 0, 1) := by decide +kernel
theorem dX2_lots_47 : decode cX2_lots 47 = .ok (.istore 4, 2) := by decide +kernel
theorem dX2_lots_49 : decode cX2_lots 49 = .ok (.iconst 0, 1) := by decide +kernel
theorem dX2_lots_50 : decode cX2_lots 50 = .ok (.istore 5, 2) := by decide +kernel
theorem dX2_lots_52 : decode cX2_lots 52 = .ok (.iload 5, 2) := by decide +kernel
theorem dX2_lots_54 : decode cX2_lots 54 = .ok (.iload_n 1, 1) := by decide +kernel
theorem dX2_lots_55 : decode cX2_lots 55 = .ok (.if_icmp .ge 82, 3) := by decide +kernel
theorem dX2_lots_58 : decode cX2_lots 58 = .ok (.aload_n 0, 1) := by decide +kernel
theorem dX2_lots_59 : decode cX2_lots 59 = .ok (.getfield 9, 3) := by decide +kernel
theorem dX2_lots_62 : decode cX2_lots 62 = .ok (.aload_n 0, 1) := by decide +kernel
theorem dX2_lots_63 : decode cX2_lots 63 = .ok (.getfield 13, 3) := by decide +kernel
theorem dX2_lots_66 : decode cX2_lots 66 = .ok (.invokestatic 134, 3) := by decide +kernel
theorem dX2_lots_69 : decode cX2_lots 69 = .ok (.iconst 0, 1) := by decide +kernel
theorem dX2_lots_70 : decode cX2_lots 70 = .ok (.istore 6, 2) := by decide +kernel
theorem dX2_lots_72 : decode cX2_lots 72 = .ok (.iload 6, 2) := by decide +kernel
theorem dX2_lots_74 : decode cX2_lots 74 = .ok (.bipush 8, 2) := by decide +kernel
theorem dX2_lots_76 : decode cX2_lots 76 = .ok (.if_icmp .ge 29, 3) := by decide +kernel
theorem dX2_lots_79 : decode cX2_lots 79 = .ok (.aload_n 0, 1) := by decide +kernel
theorem dX2_lots_80 : decode cX2_lots 80 = .ok (.getfield 13, 3) := by decide +kernel
theorem dX2_lots_83 : decode cX2_lots 83 = .ok (.iconst 4, 1) := by decide +kernel
theorem dX2_lots_84 : decode cX2_lots 84 = .ok (.aload_n 0, 1) := by decide +kernel
theorem dX2_lots_85 : decode cX2_lots 85 = .ok (.bipush 10, 2) := by decide +kernel
theorem dX2_lots_87 : decode cX2_lots 87 = .ok (.invokevirtual 228, 3) := by decide +kernel
theorem dX2_lots_90 : decode cX2_lots 90 = .ok (.iastore, 1) := by decide +kernel
theorem dX2_lots_91 : decode cX2_lots 91 = .ok (.aload_n 0, 1) := by decide +kernel
theorem dX2_lots_92 : decode cX2_lots 92 = .ok (.getfield 13, 3) := by decide +kernel
theorem dX2_lots_95 : decode cX2_lots 95 = .ok (.iconst (-1), 1) := by decide +kernel
theorem dX2_lots_96 : decode cX2_lots 96 = .ok (.invokestatic 87, 3) := by decide +kernel
theorem dX2_lots_99 : decode cX2_lots 99 = .ok (.iinc 6 1, 3) := by decide +kernel
theorem dX2_lots_102 : decode cX2_lots 102 = .ok (.goto (-30), 3) := by decide +kernel
theorem dX2_lots_105 : decode cX2_lots 105 = .ok (.iload 4, 2) := by decide +kernel
theorem dX2_lots_107 : decode cX2_lots 107 = .ok (.iload_n 3, 1) := by decide +kernel
theorem dX2_lots_108 : decode cX2_lots 108 = .ok (.ifCond .ne 13, 3) := by decide +kernel
theorem dX2_lots_111 : decode cX2_lots 111 = .ok (.aload_n 0, 1) := by decide +kernel
theorem dX2_lots_112 : decode cX2_lots 112 = .ok (.getfield 13, 3) := by decide +kernel
theorem dX2_lots_115 : decode cX2_lots 115 = .ok (.invokestatic 180, 3) := by decide +kernel
theorem dX2_lots_118 : decode cX2_lots 118 = .ok (.goto 10, 3) := by decide +kernel
theorem dX2_lots_121 : decode cX2_lots 121 = .ok (.aload_n 0, 1) := by decide +kernel
theorem dX2_lots_122 : decode cX2_lots 122 = .ok (.getfield 13, 3) := by decide +kernel
theorem dX2_lots_125 : decode cX2_lots 125 = .ok (.invokestatic 183, 3) := by decide +kernel
theorem dX2_lots_128 : decode cX2_lots 128 = .ok (.iadd, 1) := by decide +kernel
theorem dX2_lots_129 : decode cX2_lots 129 = .ok (.istore 4, 2) := by decide +kernel
theorem dX2_lots_131 : decode cX2_lots 131 = .ok (.iinc 5 1, 3) := by decide +kernel
theorem dX2_lots_134 : decode cX2_lots 134 = .ok (.goto (-82), 3) := by decide +kernel
theorem dX2_lots_137 : decode cX2_lots 137 = .ok (.iload 4, 2) := by decide +kernel
theorem dX2_lots_139 : decode cX2_lots 139 = .ok (.ireturn, 1) := by decide +kernel
set_option maxRecDepth 20000 in
theorem ggX2_image_X2_copies : GoodIn wsX2_image wsX2_copies := goodIn_r _ [7] (by decide +kernel) (by decide +kernel)
set_option maxRecDepth 20000 in
theorem gX2_image_X2_copies : GoodIn wsX2_image (va_wsS RX2 134 yX2_copies wsX2_copies) := goodIn_app (goodIn_of _ (by decide +kernel)) ggX2_image_X2_copies
theorem dX2_image_0 : decode cX2_image 0 = .ok (.aload_n 0, 1) := by decide +kernel
theorem dX2_image_1 : decode cX2_image 1 = .ok (.getfield 9, 3) := by decide +kernel
theorem dX2_image_4 : decode cX2_image 4 = .ok (.aload_n 0, 1) := by decide +kernel
theorem dX2_image_5 : decode cX2_image 5 = .ok (.getfield 16, 3) := by decide +kernel
theorem dX2_image_8 : decode cX2_image 8 = .ok (.invokestatic 134, 3) := by decide +kernel
theorem dX2_image_11 : decode cX2_image 11 = .ok (.aload_n 0, 1) := by decide +kernel
theorem dX2_image_12 : decode cX2_image 12 = .ok (.iconst 1, 1) := by decide +kernel
theorem dX2_image_13 : decode cX2_image 13 = .ok (.putfield 231, 3) := by decide +kernel
theorem dX2_image_16 : decode cX2_image 16 = .ok (.aload_n 0, 1) := by decide +kernel
theorem dX2_image_17 : decode cX2_image 17 = .ok (.getfield 9, 3) := by decide +kernel
theorem dX2_image_20 : decode cX2_image 20 = .ok (.iconst 2, 1) := by decide +kernel
theorem dX2_image_21 : decode cX2_image 21 = .ok (.iaload, 1) := by decide +kernel
theorem dX2_image_22 : decode cX2_image 22 = .ok (.ireturn, 1) := by decide +kernel
set_option maxRecDepth 20000 in
theorem ggX2_on_X2_no : GoodIn wsX2_on wsX2_no := goodIn_r _ [8, 9, 13, 14, 15, 16, 17, 18, 19, 20, 21, 22, 23, 24, 25] (by decide +kernel) (by decide +kernel)
set_option maxRecDepth 20000 in
theorem gX2_on_X2_no : GoodIn wsX2_on (wsV RX2 36 RX2 yX2_no wsX2_no) := goodIn_app (goodIn_of _ (by decide +kernel)) ggX2_on_X2_no
set_option maxRecDepth 20000 in
theorem ggX2_on_X2_copies : GoodIn wsX2_on wsX2_copies := goodIn_r _ [12] (by decide +kernel) (by decide +kernel)
set_option maxRecDepth 20000 in
theorem gX2_on_X2_copies : GoodIn wsX2_on (va_wsS RX2 134 yX2_copies wsX2_copies) := goodIn_app (goodIn_of _ (by decide +kernel)) ggX2_on_X2_copies
theorem dX2_on_0 : decode cX2_on 0 = .ok (.aload_n 0, 1) := by decide +kernel
theorem dX2_on_1 : decode cX2_on 1 = .ok (.getfield 231, 3) := by decide +kernel
theorem dX2_on_4 : decode cX2_on 4 = .ok (.ifCond .ne 10, 3) := by decide +kernel
theorem dX2_on_7 : decode cX2_on 7 = .ok (.aload_n 0, 1) := by decide +kernel
theorem dX2_on_8 : decode cX2_on 8 = .ok (.bipush (-3), 2) := by decide +kernel
theorem dX2_on_10 : decode cX2_on 10 = .ok (.invokevirtual 36, 3) := by decide +kernel
theorem dX2_on_13 : decode cX2_on 13 = .ok (.ireturn, 1) := by decide +kernel
theorem dX2_on_14 : decode cX2_on 14 = .ok (.aload_n 0, 1) := by decide +kernel
theorem dX2_on_15 : decode cX2_on 15 = .ok (.getfield 16, 3) := by decide +kernel
theorem dX2_on_18 : decode cX2_on 18 = .ok (.aload_n 0, 1) := by decide +kernel
theorem dX2_on_19 : decode cX2_on 19 = .ok (.getfield 9, 3) := by decide +kernel
theorem dX2_on_22 : decode cX2_on 22 = .ok (.invokestatic 134, 3) := by decide +kernel
theorem dX2_on_25 : decode cX2_on 25 = .ok (.aload_n 0, 1) := by decide +kernel
