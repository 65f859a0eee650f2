theorem dX1_wordsThen_44 : decode cX1_wordsThen 44 = .ok (.iload_n 1, 1) := by decide +kernel
theorem dX1_wordsThen_45 : decode cX1_wordsThen 45 = .ok (.invokevirtual 109, 3) := by decide +kernel
theorem dX1_wordsThen_48 : decode cX1_wordsThen 48 = .ok (.ireturn, 1) := by decide +kernel
set_option maxRecDepth 20000 in
theorem ggX1_then_X1_outside : GoodIn wsX1_then wsX1_outside := goodIn_r _ [7] (by decide +kernel) (by decide +kernel)
set_option maxRecDepth 20000 in
theorem gX1_then_X1_outside : GoodIn wsX1_then (va_wsS RX1 140 yX1_outside wsX1_outside) := goodIn_app (goodIn_of _ (by decide +kernel)) ggX1_then_X1_outside
set_option maxRecDepth 20000 in
theorem ggX1_then_X1_refuse : GoodIn wsX1_then wsX1_refuse := goodIn_r _ [11, 12, 90, 91, 92, 93, 94, 95, 96, 97, 98, 99, 100, 101] (by decide +kernel) (by decide +kernel)
set_option maxRecDepth 20000 in
theorem gX1_then_X1_refuse : GoodIn wsX1_then (wsV RX1 52 RX1 yX1_refuse wsX1_refuse) := goodIn_app (goodIn_of _ (by decide +kernel)) ggX1_then_X1_refuse
set_option maxRecDepth 20000 in
theorem ggX1_then_X1_isOneOfTwo : GoodIn wsX1_then wsX1_isOneOfTwo := goodIn_r _ [15] (by decide +kernel) (by decide +kernel)
set_option maxRecDepth 20000 in
theorem gX1_then_X1_isOneOfTwo : GoodIn wsX1_then (va_wsS RX1 156 yX1_isOneOfTwo wsX1_isOneOfTwo) := goodIn_app (goodIn_of _ (by decide +kernel)) ggX1_then_X1_isOneOfTwo
set_option maxRecDepth 20000 in
theorem ggX1_then_X1_thinkOn : GoodIn wsX1_then wsX1_thinkOn := goodIn_r _ [19, 1, 20, 21, 22, 23, 24, 25, 26, 27, 28, 29, 30, 31, 32, 33, 34, 35, 36, 37, 38, 39, 40, 41, 42, 43, 44, 45, 46, 47, 48, 49, 50, 51, 52, 53, 54, 55, 56, 57, 58, 59, 60, 61, 62, 63, 64, 65, 66, 67, 68, 69, 70, 71, 72, 73, 74, 75, 76, 77, 78, 79, 80, 81, 82, 83, 84, 85, 86, 87, 88, 89, 90, 91, 92, 93, 94, 95, 96, 97, 98, 99, 100, 101, 102, 103, 104, 105, 106, 107, 108, 109, 110, 111, 112, 113] (by decide +kernel) (by decide +kernel)
set_option maxRecDepth 20000 in
theorem gX1_then_X1_thinkOn : GoodIn wsX1_then (wsV RX1 153 RX1 yX1_thinkOn wsX1_thinkOn) := goodIn_app (goodIn_of _ (by decide +kernel)) ggX1_then_X1_thinkOn
theorem dX1_then_0 : decode cX1_then 0 = .ok (.iload_n 1, 1) := by decide +kernel
theorem dX1_then_1 : decode cX1_then 1 = .ok (.iconst 0, 1) := by decide +kernel
theorem dX1_then_2 : decode cX1_then 2 = .ok (.bipush 60, 2) := by decide +kernel
theorem dX1_then_4 : decode cX1_then 4 = .ok (.invokestatic 140, 3) := by decide +kernel
theorem dX1_then_7 : decode cX1_then 7 = .ok (.istore_n 3, 1) := by decide +kernel
theorem dX1_then_8 : decode cX1_then 8 = .ok (.iload_n 3, 1) := by decide +kernel
theorem dX1_then_9 : decode cX1_then 9 = .ok (.ifCond .eq 9, 3) := by decide +kernel
theorem dX1_then_12 : decode cX1_then 12 = .ok (.aload_n 0, 1) := by decide +kernel
theorem dX1_then_13 : decode cX1_then 13 = .ok (.iload_n 3, 1) := by decide +kernel
theorem dX1_then_14 : decode cX1_then 14 = .ok (.invokevirtual 52, 3) := by decide +kernel
theorem dX1_then_17 : decode cX1_then 17 = .ok (.ireturn, 1) := by decide +kernel
theorem dX1_then_18 : decode cX1_then 18 = .ok (.iload_n 2, 1) := by decide +kernel
theorem dX1_then_19 : decode cX1_then 19 = .ok (.invokestatic 156, 3) := by decide +kernel
theorem dX1_then_22 : decode cX1_then 22 = .ok (.ifCond .ne 10, 3) := by decide +kernel
theorem dX1_then_25 : decode cX1_then 25 = .ok (.aload_n 0, 1) := by decide +kernel
theorem dX1_then_26 : decode cX1_then 26 = .ok (.bipush (-2), 2) := by decide +kernel
theorem dX1_then_28 : decode cX1_then 28 = .ok (.invokevirtual 52, 3) := by decide +kernel
theorem dX1_then_31 : decode cX1_then 31 = .ok (.ireturn, 1) := by decide +kernel
theorem dX1_then_32 : decode cX1_then 32 = .ok (.aload_n 0, 1) := by decide +kernel
theorem dX1_then_33 : decode cX1_then 33 = .ok (.iload_n 1, 1) := by decide +kernel
theorem dX1_then_34 : decode cX1_then 34 = .ok (.invokevirtual 153, 3) := by decide +kernel
theorem dX1_then_37 : decode cX1_then 37 = .ok (.iload_n 2, 1) := by decide +kernel
theorem dX1_then_38 : decode cX1_then 38 = .ok (.ifCond .ne 13, 3) := by decide +kernel
theorem dX1_then_41 : decode cX1_then 41 = .ok (.aload_n 0, 1) := by decide +kernel
theorem dX1_then_42 : decode cX1_then 42 = .ok (.getfield 16, 3) := by decide +kernel
theorem dX1_then_45 : decode cX1_then 45 = .ok (.getfield 122, 3) := by decide +kernel
theorem dX1_then_48 : decode cX1_then 48 = .ok (.goto 10, 3) := by decide +kernel
theorem dX1_then_51 : decode cX1_then 51 = .ok (.aload_n 0, 1) := by decide +kernel
theorem dX1_then_52 : decode cX1_then 52 = .ok (.getfield 16, 3) := by decide +kernel
theorem dX1_then_55 : decode cX1_then 55 = .ok (.getfield 132, 3) := by decide +kernel
theorem dX1_then_58 : decode cX1_then 58 = .ok (.ireturn, 1) := by decide +kernel
set_option maxRecDepth 20000 in
theorem ggX1_whole_X1_firstWhole : GoodIn wsX1_whole wsX1_firstWhole := goodIn_r _ [6, 1, 7, 8, 9, 10, 5, 11, 12, 13, 14, 15, 16, 17, 18, 19, 20, 21, 22, 23, 24, 25, 26, 27, 28, 29, 30, 31, 32, 33, 34, 35, 36, 37, 38, 39, 40, 41, 42, 43, 44, 45, 46, 47, 48, 49, 50, 51, 52, 53, 54, 55, 56, 57, 58, 59, 60, 61, 62, 63, 64, 65, 66, 67, 68, 69, 70, 71, 72, 73, 74, 75, 76, 77, 78, 79, 80, 81, 82, 83, 84, 85, 86, 87, 88, 89, 99, 100, 101, 102, 103, 104, 105, 106, 107, 108, 109, 110, 111, 112, 113, 114, 115, 116, 117, 118, 119, 120, 121, 122] (by decide +kernel) (by decide +kernel)
set_option maxRecDepth 20000 in
theorem gX1_whole_X1_firstWhole : GoodIn wsX1_whole (wsV RX1 159 RX1 yX1_firstWhole wsX1_firstWhole) := goodIn_app (goodIn_of _ (by decide +kernel)) ggX1_whole_X1_firstWhole
set_option maxRecDepth 20000 in
theorem ggX1_whole_X0_hasReader : GoodIn wsX1_whole wsX0_hasReader := goodIn_r _ [93, 27, 111, 112, 113, 114, 115, 116, 117, 118, 119, 120, 121, 122] (by decide +kernel) (by decide +kernel)
set_option maxRecDepth 20000 in
theorem gX1_whole_X0_hasReader : GoodIn wsX1_whole (wsV RX1 100 RX0 yX0_hasReader wsX0_hasReader) := goodIn_app (goodIn_of _ (by decide +kernel)) ggX1_whole_X0_hasReader
set_option maxRecDepth 20000 in
theorem ggX1_whole_X1_refuse : GoodIn wsX1_whole wsX1_refuse := goodIn_r _ [97, 98, 99, 100, 101, 102, 103, 104, 105, 106, 107, 108, 109, 110] (by decide +kernel) (by decide +kernel)
set_option maxRecDepth 20000 in
theorem gX1_whole_X1_refuse : GoodIn wsX1_whole (wsV RX1 52 RX1 yX1_refuse wsX1_refuse) := goodIn_app (goodIn_of _ (by decide +kernel)) ggX1_whole_X1_refuse
set_option maxRecDepth 20000 in
theorem ggX1_whole_X1_nightsUntilWhole : GoodIn wsX1_whole wsX1_nightsUntilWhole := goodIn_r _ [11, 12, 1, 13, 14, 15, 16, 17, 18, 19, 20, 21, 22, 23, 24, 25, 26, 27, 28, 29, 30, 31, 32, 33, 34, 35, 36, 37, 38, 39, 40, 41, 42, 43, 44, 45, 46, 47, 48, 49, 50, 51, 52, 53, 54, 55, 56, 57, 58, 59, 60, 61, 62, 63, 64, 65, 66, 67, 68, 69, 70, 71, 72, 73, 74, 75, 76, 77, 78, 79, 80, 81, 82, 83, 84, 85, 86, 87, 88, 89, 99, 100, 101, 102, 103, 104, 105, 106, 107, 108, 109, 110, 111, 112, 113, 114, 115, 116, 117, 118, 119, 120, 121, 122] (by decide +kernel) (by decide +kernel)
set_option maxRecDepth 20000 in
theorem gX1_whole_X1_nightsUntilWhole : GoodIn wsX1_whole (wsV RX1 163 RX1 yX1_nightsUntilWhole wsX1_nightsUntilWhole) := goodIn_app (goodIn_of _ (by decide +kernel)) ggX1_whole_X1_nightsUntilWhole
theorem dX1_whole_0 : decode cX1_whole 0 = .ok (.iload_n 1, 1) := by decide +kernel
theorem dX1_whole_1 : decode cX1_whole 1 = .ok (.iconst (-1), 1) := by decide +kernel
theorem dX1_whole_2 : decode cX1_whole 2 = .ok (.if_icmp .ne 8, 3) := by decide +kernel
theorem dX1_whole_5 : decode cX1_whole 5 = .ok (.aload_n 0, 1) := by decide +kernel
theorem dX1_whole_6 : decode cX1_whole 6 = .ok (.invokevirtual 159, 3) := by decide +kernel
theorem dX1_whole_9 : decode cX1_whole 9 = .ok (.ireturn, 1) := by decide +kernel
theorem dX1_whole_10 : decode cX1_whole 10 = .ok (.aload_n 0, 1) := by decide +kernel
theorem dX1_whole_11 : decode cX1_whole 11 = .ok (.getfield 10, 3) := by decide +kernel
theorem dX1_whole_14 : decode cX1_whole 14 = .ok (.iload_n 1, 1) := by decide +kernel
theorem dX1_whole_15 : decode cX1_whole 15 = .ok (.invokevirtual 100, 3) := by decide +kernel
theorem dX1_whole_18 : decode cX1_whole 18 = .ok (.ifCond .ne 9, 3) := by decide +kernel
theorem dX1_whole_21 : decode cX1_whole 21 = .ok (.aload_n 0, 1) := by decide +kernel
theorem dX1_whole_22 : decode cX1_whole 22 = .ok (.iconst (-1), 1) := by decide +kernel
theorem dX1_whole_23 : decode cX1_whole 23 = .ok (.invokevirtual 52, 3) := by decide +kernel
theorem dX1_whole_26 : decode cX1_whole 26 = .ok (.ireturn, 1) := by decide +kernel
theorem dX1_whole_27 : decode cX1_whole 27 = .ok (.aload_n 0, 1) := by decide +kernel
theorem dX1_whole_28 : decode cX1_whole 28 = .ok (.iload_n 1, 1) := by decide +kernel
theorem dX1_whole_29 : decode cX1_whole 29 = .ok (.invokevirtual 163, 3) := by decide +kernel
theorem dX1_whole_32 : decode cX1_whole 32 = .ok (.ireturn, 1) := by decide +kernel
set_option maxRecDepth 20000 in
theorem ggX1_next_X1_isOneOfTwo : GoodIn wsX1_next wsX1_isOneOfTwo := goodIn_r _ [5] (by decide +kernel) (by decide +kernel)
set_option maxRecDepth 20000 in
theorem gX1_next_X1_isOneOfTwo : GoodIn wsX1_next (va_wsS RX1 156 yX1_isOneOfTwo wsX1_isOneOfTwo) := goodIn_app (goodIn_of _ (by decide +kernel)) ggX1_next_X1_isOneOfTwo
set_option maxRecDepth 20000 in
theorem ggX1_next_X1_refuse : GoodIn wsX1_next wsX1_refuse := goodIn_r _ [9, 10, 86, 87, 88, 89, 90, 91, 92, 93, 94, 95, 96, 97] (by decide +kernel) (by decide +kernel)
set_option maxRecDepth 20000 in
theorem gX1_next_X1_refuse : GoodIn wsX1_next (wsV RX1 52 RX1 yX1_refuse wsX1_refuse) := goodIn_app (goodIn_of _ (by decide +kernel)) ggX1_next_X1_refuse
set_option maxRecDepth 20000 in
theorem ggX1_next_X0_upNext : GoodIn wsX1_next wsX0_upNext := goodIn_r _ [15, 16, 17, 18, 19, 14, 20, 21, 22, 23, 24, 25, 26, 27, 28, 29, 30, 31, 32, 33, 34, 35, 98, 99, 100, 101, 102, 103, 104, 105, 106, 107, 108, 109] (by decide +kernel) (by decide +kernel)
set_option maxRecDepth 20000 in
theorem gX1_next_X0_upNext : GoodIn wsX1_next (wsV RX1 166 RX0 yX0_upNext wsX0_upNext) := goodIn_app (goodIn_of _ (by decide +kernel)) ggX1_next_X0_upNext
set_option maxRecDepth 20000 in
theorem ggX1_next_X1_nightsUntilSpent : GoodIn wsX1_next wsX1_nightsUntilSpent := goodIn_r _ [39, 40, 1, 41, 42, 43, 14, 44, 16, 35, 45, 46, 47, 48, 49, 50, 30, 51, 52, 53, 54, 21, 55, 56, 11, 12, 13, 15, 17, 18, 19, 20, 22, 23, 24, 25, 26, 27, 28, 29, 31, 32, 33, 34, 57, 58, 59, 60, 61, 62, 63, 64, 65, 66, 67, 68, 69, 70, 71, 72, 73, 74, 75, 76, 77, 78, 79, 80, 81, 82, 83, 84, 85, 86, 87, 88, 89, 90, 91, 92, 93, 94, 95, 96, 97, 98, 99, 100, 101, 102, 103, 104, 105, 106, 107, 108, 109] (by decide +kernel) (by decide +kernel)
set_option maxRecDepth 20000 in
theorem gX1_next_X1_nightsUntilSpent : GoodIn wsX1_next (wsV RX1 169 RX1 yX1_nightsUntilSpent wsX1_nightsUntilSpent) := goodIn_app (goodIn_of _ (by decide +kernel)) ggX1_next_X1_nightsUntilSpent
theorem dX1_next_0 : decode cX1_next 0 = .ok (.iload_n 1, 1) := by decide +kernel
theorem dX1_next_1 : decode cX1_next 1 = .ok (.invokestatic 156, 3) := by decide +kernel
theorem dX1_next_4 : decode cX1_next 4 = .ok (.ifCond .ne 10, 3) := by decide +kernel
theorem dX1_next_7 : decode cX1_next 7 = .ok (.aload_n 0, 1) := by decide +kernel
theorem dX1_next_8 : decode cX1_next 8 = .ok (.bipush (-2), 2) := by decide +kernel
theorem dX1_next_10 : decode cX1_next 10 = .ok (.invokevirtual 52, 3) := by decide +kernel
theorem dX1_next_13 : decode cX1_next 13 = .ok (.ireturn, 1) := by decide +kernel
theorem dX1_next_14 : decode cX1_next 14 = .ok (.iload_n 1, 1) := by decide +kernel
theorem dX1_next_15 : decode cX1_next 15 = .ok (.ifCond .ne 13, 3) := by decide +kernel
theorem dX1_next_18 : decode cX1_next 18 = .ok (.aload_n 0, 1) := by decide +kernel
theorem dX1_next_19 : decode cX1_next 19 = .ok (.getfield 10, 3) := by decide +kernel
theorem dX1_next_22 : decode cX1_next 22 = .ok (.invokevirtual 166, 3) := by decide +kernel
theorem dX1_next_25 : decode cX1_next 25 = .ok (.goto 7, 3) := by decide +kernel
theorem dX1_next_28 : decode cX1_next 28 = .ok (.aload_n 0, 1) := by decide +kernel
theorem dX1_next_29 : decode cX1_next 29 = .ok (.invokevirtual 169, 3) := by decide +kernel
theorem dX1_next_32 : decode cX1_next 32 = .ok (.ireturn, 1) := by decide +kernel
set_option maxRecDepth 20000 in
theorem ggX1_fewest_X0_hasReader : GoodIn wsX1_fewest wsX0_hasReader := goodIn_r _ [6, 7, 95, 96, 97, 98, 99, 100, 101, 102, 103, 104, 105, 106] (by decide +kernel) (by decide +kernel)
set_option maxRecDepth 20000 in
theorem gX1_fewest_X0_hasReader : GoodIn wsX1_fewest (wsV RX1 100 RX0 yX0_hasReader wsX0_hasReader) := goodIn_app (goodIn_of _ (by decide +kernel)) ggX1_fewest_X0_hasReader
set_option maxRecDepth 20000 in
theorem ggX1_fewest_X1_refuse : GoodIn wsX1_fewest wsX1_refuse := goodIn_r _ [12, 13, 83, 84, 85, 86, 87, 88, 89, 90, 91, 92, 93, 94] (by decide +kernel) (by decide +kernel)
set_option maxRecDepth 20000 in
theorem gX1_fewest_X1_refuse : GoodIn wsX1_fewest (wsV RX1 52 RX1 yX1_refuse wsX1_refuse) := goodIn_app (goodIn_of _ (by decide +kernel)) ggX1_fewest_X1_refuse
set_option maxRecDepth 20000 in
theorem ggX1_fewest_X1_isOneOfTwo : GoodIn wsX1_fewest wsX1_isOneOfTwo := goodIn_r _ [16] (by decide +kernel) (by decide +kernel)
set_option maxRecDepth 20000 in
theorem gX1_fewest_X1_isOneOfTwo : GoodIn wsX1_fewest (va_wsS RX1 156 yX1_isOneOfTwo wsX1_isOneOfTwo) := goodIn_app (goodIn_of _ (by decide +kernel)) ggX1_fewest_X1_isOneOfTwo
set_option maxRecDepth 20000 in
theorem ggX1_fewest_X1_noteWhatIsBrought : GoodIn wsX1_fewest wsX1_noteWhatIsBrought := goodIn_r _ [20, 21, 1, 22, 23, 24, 25, 26, 27, 28, 29, 30, 31, 5, 32, 7, 33, 34, 35, 36, 37, 38, 39, 40, 41, 42, 43, 44, 45, 46, 47, 48, 49, 83, 84, 85, 86, 87, 88, 89, 90, 91, 92, 93, 94, 95, 96, 97, 98, 99, 100, 101, 102, 103, 104, 105, 106] (by decide +kernel) (by decide +kernel)
set_option maxRecDepth 20000 in
theorem gX1_fewest_X1_noteWhatIsBrought : GoodIn wsX1_fewest (wsV RX1 172 RX1 yX1_noteWhatIsBrought wsX1_noteWhatIsBrought) := goodIn_app (goodIn_of _ (by decide +kernel)) ggX1_fewest_X1_noteWhatIsBrought
set_option maxRecDepth 20000 in
theorem ggX1_fewest_X1_fewestRockets : GoodIn wsX1_fewest wsX1_fewestRockets := goodIn_r _ [53, 1, 22, 54, 55, 56, 57, 58, 59, 60, 61, 62, 63, 64, 11, 65, 21, 66, 67, 68, 5, 69, 70, 83, 84, 85, 86, 87, 88, 89, 90, 91, 92, 93, 94, 95, 96, 97, 98, 99, 100, 101, 102, 103, 104, 105, 106] (by decide +kernel) (by decide +kernel)
set_option maxRecDepth 20000 in
theorem gX1_fewest_X1_fewestRockets : GoodIn wsX1_fewest (wsV RX1 175 RX1 yX1_fewestRockets wsX1_fewestRockets) := goodIn_app (goodIn_of _ (by decide +kernel)) ggX1_fewest_X1_fewestRockets
set_option maxRecDepth 20000 in
theorem ggX1_fewest_X1_leastCost : GoodIn wsX1_fewest wsX1_leastCost := goodIn_r _ [74, 1, 22, 54, 62, 63, 64, 11, 65, 21, 66, 67, 68, 5, 69, 70, 75, 76, 77, 78, 79, 80, 81, 82, 38, 83, 84, 85, 86, 87, 88, 89, 90, 91, 92, 93, 94, 95, 96, 97, 98, 99, 100, 101, 102, 103, 104, 105, 106] (by decide +kernel) (by decide +kernel)
set_option maxRecDepth 20000 in
theorem gX1_fewest_X1_leastCost : GoodIn wsX1_fewest (wsV RX1 178 RX1 yX1_leastCost wsX1_leastCost) := goodIn_app (goodIn_of _ (by decide +kernel)) ggX1_fewest_X1_leastCost
theorem dX1_fewest_0 : decode cX1_fewest 0 = .ok (.aload_n 0, 1) := by decide +kernel
theorem dX1_fewest_1 : decode cX1_fewest 1 = .ok (.getfield 10, 3) := by decide +kernel
theorem dX1_fewest_4 : decode cX1_fewest 4 = .ok (.iload_n 1, 1) := by decide +kernel
theorem dX1_fewest_5 : decode cX1_fewest 5 = .ok (.invokevirtual 100, 3) := by decide +kernel
theorem dX1_fewest_8 : decode cX1_fewest 8 = .ok (.ifCond .ne 9, 3) := by decide +kernel
theorem dX1_fewest_11 : decode cX1_fewest 11 = .ok (.aload_n 0, 1) := by decide +kernel
theorem dX1_fewest_12 : decode cX1_fewest 12 = .ok (.iconst (-1), 1) := by decide +kernel
theorem dX1_fewest_13 : decode cX1_fewest 13 = .ok (.invokevirtual 52, 3) := by decide +kernel
theorem dX1_fewest_16 : decode cX1_fewest 16 = .ok (.ireturn, 1) := by decide +kernel
theorem dX1_fewest_17 : decode cX1_fewest 17 = .ok (.iload_n 2, 1) := by decide +kernel
theorem dX1_fewest_18 : decode cX1_fewest 18 = .ok (.invokestatic 156, 3) := by decide +kernel
theorem dX1_fewest_21 : decode cX1_fewest 21 = .ok (.ifCond .ne 10, 3) := by decide +kernel
theorem dX1_fewest_24 : decode cX1_fewest 24 = .ok (.aload_n 0, 1) := by decide +kernel
theorem dX1_fewest_25 : decode cX1_fewest 25 = .ok (.bipush (-2), 2) := by decide +kernel
theorem dX1_fewest_27 : decode cX1_fewest 27 = .ok (.invokevirtual 52, 3) := by decide +kernel
theorem dX1_fewest_30 : decode cX1_fewest 30 = .ok (.ireturn, 1) := by decide +kernel
theorem dX1_fewest_31 : decode cX1_fewest 31 = .ok (.aload_n 0, 1) := by decide +kernel
theorem dX1_fewest_32 : decode cX1_fewest 32 = .ok (.iload_n 1, 1) := by decide +kernel
theorem dX1_fewest_33 : decode cX1_fewest 33 = .ok (.invokevirtual 172, 3) := by decide +kernel
theorem dX1_fewest_36 : decode cX1_fewest 36 = .ok (.iload_n 2, 1) := by decide +kernel
theorem dX1_fewest_37 : decode cX1_fewest 37 = .ok (.ifCond .ne 11, 3) := by decide +kernel
theorem dX1_fewest_40 : decode cX1_fewest 40 = .ok (.aload_n 0, 1) := by decide +kernel
theorem dX1_fewest_41 : decode cX1_fewest 41 = .ok (.iload_n 1, 1) := by decide +kernel
theorem dX1_fewest_42 : decode cX1_fewest 42 = .ok (.invokevirtual 175, 3) := by decide +kernel
theorem dX1_fewest_45 : decode cX1_fewest 45 = .ok (.goto 8, 3) := by decide +kernel
theorem dX1_fewest_48 : decode cX1_fewest 48 = .ok (.aload_n 0, 1) := by decide +kernel
theorem dX1_fewest_49 : decode cX1_fewest 49 = .ok (.iload_n 1, 1) := by decide +kernel
theorem dX1_fewest_50 : decode cX1_fewest 50 = .ok (.invokevirtual 178, 3) := by decide +kernel
theorem dX1_fewest_53 : decode cX1_fewest 53 = .ok (.ireturn, 1) := by decide +kernel
set_option maxRecDepth 20000 in
theorem ggX1_windBest_X1_outside : GoodIn wsX1_windBest wsX1_outside := goodIn_r _ [7] (by decide +kernel) (by decide +kernel)
set_option maxRecDepth 20000 in
theorem gX1_windBest_X1_outside : GoodIn wsX1_windBest (va_wsS RX1 140 yX1_outside wsX1_outside) := goodIn_app (goodIn_of _ (by decide +kernel)) ggX1_windBest_X1_outside
set_option maxRecDepth 20000 in
theorem ggX1_windBest_X1_refuse : GoodIn wsX1_windBest wsX1_refuse := goodIn_r _ [11, 12, 97, 98, 99, 100, 101, 102, 103, 104, 105, 106, 107, 108] (by decide +kernel) (by decide +kernel)
set_option maxRecDepth 20000 in
theorem gX1_windBest_X1_refuse : GoodIn wsX1_windBest (wsV RX1 52 RX1 yX1_refuse wsX1_refuse) := goodIn_app (goodIn_of _ (by decide +kernel)) ggX1_windBest_X1_refuse
set_option maxRecDepth 20000 in
theorem ggX1_windBest_X1_isOneOfTwo : GoodIn wsX1_windBest wsX1_isOneOfTwo := goodIn_r _ [15] (by decide +kernel) (by decide +kernel)
set_option maxRecDepth 20000 in
theorem gX1_windBest_X1_isOneOfTwo : GoodIn wsX1_windBest (va_wsS RX1 156 yX1_isOneOfTwo wsX1_isOneOfTwo) := goodIn_app (goodIn_of _ (by decide +kernel)) ggX1_windBest_X1_isOneOfTwo
set_option maxRecDepth 20000 in
theorem ggX1_windBest_X0_copyFrom : GoodIn wsX1_windBest wsX0_copyFrom := goodIn_r _ [20, 21, 22, 23, 24, 25, 26, 27, 28, 29, 30, 31, 32, 33, 34, 35, 36, 109, 110, 111, 112, 113, 114, 115, 116, 117, 118, 119, 120] (by decide +kernel) (by decide +kernel)
set_option maxRecDepth 20000 in
theorem gX1_windBest_X0_copyFrom : GoodIn wsX1_windBest (wsV RX1 59 RX0 yX0_copyFrom wsX0_copyFrom) := goodIn_app (goodIn_of _ (by decide +kernel)) ggX1_windBest_X0_copyFrom
set_option maxRecDepth 20000 in
theorem ggX1_windBest_X0_passNights : GoodIn wsX1_windBest wsX0_passNights := goodIn_r _ [40, 36, 41, 42, 43, 19, 44, 30, 33, 45, 46, 47, 48, 21, 49, 50, 51, 52, 34, 53, 54, 55, 56, 57, 58, 59, 60, 29, 61, 62, 63, 64, 22, 65, 66, 67, 68, 28, 32, 69, 70, 71, 72, 73, 74, 75, 76, 31, 77, 78, 79, 80, 35, 81, 82, 83, 84, 27, 109, 110, 111, 112, 113, 114, 115, 116, 117, 118, 119, 120] (by decide +kernel) (by decide +kernel)
set_option maxRecDepth 20000 in
theorem gX1_windBest_X0_passNights : GoodIn wsX1_windBest (wsV RX1 150 RX0 yX0_passNights wsX0_passNights) := goodIn_app (goodIn_of _ (by decide +kernel)) ggX1_windBest_X0_passNights
set_option maxRecDepth 20000 in
theorem ggX1_windBest_X0_countWhole : GoodIn wsX1_windBest wsX0_countWhole := goodIn_r _ [88, 30, 89, 90, 91, 19, 92, 93, 94, 95, 96, 33, 109, 110, 111, 112, 113, 114, 115, 116, 117, 118, 119, 120] (by decide +kernel) (by decide +kernel)
set_option maxRecDepth 20000 in
theorem gX1_windBest_X0_countWhole : GoodIn wsX1_windBest (wsV RX1 181 RX0 yX0_countWhole wsX0_countWhole) := goodIn_app (goodIn_of _ (by decide +kernel)) ggX1_windBest_X0_countWhole
theorem dX1_windBest_0 : decode cX1_windBest 0 = .ok (.iload_n 1, 1) := by decide +kernel
theorem dX1_windBest_1 : decode cX1_windBest 1 = .ok (.iconst 0, 1) := by decide +kernel
theorem dX1_windBest_2 : decode cX1_windBest 2 = .ok (.bipush 30, 2) := by decide +kernel
theorem dX1_windBest_4 : decode cX1_windBest 4 = .ok (.invokestatic 140, 3) := by decide +kernel
theorem dX1_windBest_7 : decode cX1_windBest 7 = .ok (.istore_n 3, 1) := by decide +kernel
theorem dX1_windBest_8 : decode cX1_windBest 8 = .ok (.iload_n 3, 1) := by decide +kernel
theorem dX1_windBest_9 : decode cX1_windBest 9 = .ok (.ifCond .eq 9, 3) := by decide +kernel
theorem dX1_windBest_12 : decode cX1_windBest 12 = .ok (.aload_n 0, 1) := by decide +kernel
theorem dX1_windBest_13 : decode cX1_windBest 13 = .ok (.iload_n 3, 1) := by decide +kernel
theorem dX1_windBest_14 : decode cX1_windBest 14 = .ok (.invokevirtual 52, 3) := by decide +kernel
theorem dX1_windBest_17 : decode cX1_windBest 17 = .ok (.ireturn, 1) := by decide +kernel
theorem dX1_windBest_18 : decode cX1_windBest 18 = .ok (.iload_n 2, 1) := by decide +kernel
theorem dX1_windBest_19 : decode cX1_windBest 19 = .ok (.invokestatic 156, 3) := by decide +kernel
theorem dX1_windBest_22 : decode cX1_windBest 22 = .ok (.ifCond .ne 10, 3) := by decide +kernel
theorem dX1_windBest_25 : decode cX1_windBest 25 = .ok (.aload_n 0, 1) := by decide +kernel
theorem dX1_windBest_26 : decode cX1_windBest 26 = .ok (.bipush (-2), 2) := by decide +kernel
theorem dX1_windBest_28 : decode cX1_windBest 28 = .ok (.invokevirtual 52, 3) := by decide +kernel
theorem dX1_windBest_31 : decode cX1_windBest 31 = .ok (.ireturn, 1) := by decide +kernel
theorem dX1_windBest_32 : decode cX1_windBest 32 = .ok (.iconst 0, 1) := by decide +kernel
theorem dX1_windBest_33 : decode cX1_windBest 33 = .ok (.istore 4, 2) := by decide +kernel
theorem dX1_windBest_35 : decode cX1_windBest 35 = .ok (.iconst (-1), 1) := by decide +kernel
theorem dX1_windBest_36 : decode cX1_windBest 36 = .ok (.istore 5, 2) := by decide +kernel
theorem dX1_windBest_38 : decode cX1_windBest 38 = .ok (.iconst 0, 1) := by decide +kernel
theorem dX1_windBest_39 : decode cX1_windBest 39 = .ok (.istore 6, 2) := by decide +kernel
theorem dX1_windBest_41 : decode cX1_windBest 41 = .ok (.iload 6, 2) := by decide +kernel
theorem dX1_windBest_43 : decode cX1_windBest 43 = .ok (.bipush 10, 2) := by decide +kernel
theorem dX1_windBest_45 : decode cX1_windBest 45 = .ok (.if_icmp .ge 63, 3) := by decide +kernel
theorem dX1_windBest_48 : decode cX1_windBest 48 = .ok (.aload_n 0, 1) := by decide +kernel
theorem dX1_windBest_49 : decode cX1_windBest 49 = .ok (.getfield 16, 3) := by decide +kernel
theorem dX1_windBest_52 : decode cX1_windBest 52 = .ok (.aload_n 0, 1) := by decide +kernel
theorem dX1_windBest_53 : decode cX1_windBest 53 = .ok (.getfield 10, 3) := by decide +kernel
theorem dX1_windBest_56 : decode cX1_windBest 56 = .ok (.invokevirtual 59, 3) := by decide +kernel
theorem dX1_windBest_59 : decode cX1_windBest 59 = .ok (.aload_n 0, 1) := by decide +kernel
theorem dX1_windBest_60 : decode cX1_windBest 60 = .ok (.getfield 16, 3) := by decide +kernel
theorem dX1_windBest_63 : decode cX1_windBest 63 = .ok (.iload 6, 2) := by decide +kernel
theorem dX1_windBest_65 : decode cX1_windBest 65 = .ok (.putfield 144, 3) := by decide +kernel
theorem dX1_windBest_68 : decode cX1_windBest 68 = .ok (.aload_n 0, 1) := by decide +kernel
theorem dX1_windBest_69 : decode cX1_windBest 69 = .ok (.getfield 16, 3) := by decide +kernel
theorem dX1_windBest_72 : decode cX1_windBest 72 = .ok (.iload_n 1, 1) := by decide +kernel
theorem dX1_windBest_73 : decode cX1_windBest 73 = .ok (.bipush 31, 2) := by decide +kernel
theorem dX1_windBest_75 : decode cX1_windBest 75 = .ok (.invokevirtual 150, 3) := by decide +kernel
theorem dX1_windBest_78 : decode cX1_windBest 78 = .ok (.aload_n 0, 1) := by decide +kernel
theorem dX1_windBest_79 : decode cX1_windBest 79 = .ok (.getfield 16, 3) := by decide +kernel
theorem dX1_windBest_82 : decode cX1_windBest 82 = .ok (.invokevirtual 181, 3) := by decide +kernel
theorem dX1_windBest_85 : decode cX1_windBest 85 = .ok (.istore 7, 2) := by decide +kernel
theorem dX1_windBest_87 : decode cX1_windBest 87 = .ok (.iload 7, 2) := by decide +kernel
theorem dX1_windBest_89 : decode cX1_windBest 89 = .ok (.iload 5, 2) := by decide +kernel
theorem dX1_windBest_91 : decode cX1_windBest 91 = .ok (.if_icmp .le 11, 3) := by decide +kernel
theorem dX1_windBest_94 : decode cX1_windBest 94 = .ok (.iload 7, 2) := by decide +kernel
theorem dX1_windBest_96 : decode cX1_windBest 96 = .ok (.istore 5, 2) := by decide +kernel
theorem dX1_windBest_98 : decode cX1_windBest 98 = .ok (.iload 6, 2) := by decide +kernel
theorem dX1_windBest_100 : decode cX1_windBest 100 = .ok (.istore 4, 2) := by decide +kernel
theorem dX1_windBest_102 : decode cX1_windBest 102 = .ok (.iinc 6 1, 3) := by decide +kernel
theorem dX1_windBest_105 : decode cX1_windBest 105 = .ok (.goto (-64), 3) := by decide +kernel
theorem dX1_windBest_108 : decode cX1_windBest 108 = .ok (.iload_n 2, 1) := by decide +kernel
theorem dX1_windBest_109 : decode cX1_windBest 109 = .ok (.ifCond .ne 8, 3) := by decide +kernel
theorem dX1_windBest_112 : decode cX1_windBest 112 = .ok (.iload 4, 2) := by decide +kernel
theorem dX1_windBest_114 : decode cX1_windBest 114 = .ok (.goto 5, 3) := by decide +kernel
theorem dX1_windBest_117 : decode cX1_windBest 117 = .ok (.iload 5, 2) := by decide +kernel
theorem dX1_windBest_119 : decode cX1_windBest 119 = .ok (.ireturn, 1) := by decide +kernel
set_option maxRecDepth 20000 in
theorem ggX1_move_X0_hasReader : GoodIn wsX1_move wsX0_hasReader := goodIn_r _ [8, 9, 112, 113, 114, 115, 116, 117, 118, 119, 120, 121, 122, 123] (by decide +kernel) (by decide +kernel)
set_option maxRecDepth 20000 in
theorem gX1_move_X0_hasReader : GoodIn wsX1_move (wsV RX1 100 RX0 yX0_hasReader wsX0_hasReader) := goodIn_app (goodIn_of _ (by decide +kernel)) ggX1_move_X0_hasReader
set_option maxRecDepth 20000 in
theorem ggX1_move_X1_refuse : GoodIn wsX1_move wsX1_refuse := goodIn_r _ [14, 15, 100, 101, 102, 103, 104, 105, 106, 107, 108, 109, 110, 111] (by decide +kernel) (by decide +kernel)
set_option maxRecDepth 20000 in
theorem gX1_move_X1_refuse : GoodIn wsX1_move (wsV RX1 52 RX1 yX1_refuse wsX1_refuse) := goodIn_app (goodIn_of _ (by decide +kernel)) ggX1_move_X1_refuse
set_option maxRecDepth 20000 in
theorem ggX1_move_X1_outside : GoodIn wsX1_move wsX1_outside := goodIn_r _ [18] (by decide +kernel) (by decide +kernel)
set_option maxRecDepth 20000 in
theorem gX1_move_X1_outside : GoodIn wsX1_move (va_wsS RX1 140 yX1_outside wsX1_outside) := goodIn_app (goodIn_of _ (by decide +kernel)) ggX1_move_X1_outside
set_option maxRecDepth 20000 in
theorem ggX1_move_X1_isOneOfTwo : GoodIn wsX1_move wsX1_isOneOfTwo := goodIn_r _ [21] (by decide +kernel) (by decide +kernel)
set_option maxRecDepth 20000 in
theorem gX1_move_X1_isOneOfTwo : GoodIn wsX1_move (va_wsS RX1 156 yX1_isOneOfTwo wsX1_isOneOfTwo) := goodIn_app (goodIn_of _ (by decide +kernel)) ggX1_move_X1_isOneOfTwo
set_option maxRecDepth 20000 in
theorem ggX1_move_X0_copyFrom : GoodIn wsX1_move wsX0_copyFrom := goodIn_r _ [25, 26, 27, 28, 29, 30, 31, 32, 33, 34, 9, 35, 36, 37, 38, 39, 40, 112, 113, 114, 115, 116, 117, 118, 119, 120, 121, 122, 123] (by decide +kernel) (by decide +kernel)
set_option maxRecDepth 20000 in
theorem gX1_move_X0_copyFrom : GoodIn wsX1_move (wsV RX1 59 RX0 yX0_copyFrom wsX0_copyFrom) := goodIn_app (goodIn_of _ (by decide +kernel)) ggX1_move_X0_copyFrom
set_option maxRecDepth 20000 in
theorem ggX1_move_X0_passNights : GoodIn wsX1_move wsX0_passNights := goodIn_r _ [44, 40, 45, 46, 47, 7, 48, 9, 37, 49, 50, 51, 52, 26, 53, 54, 55, 56, 38, 57, 58, 59, 60, 61, 62, 63, 64, 34, 65, 66, 67, 68, 27, 69, 70, 71, 72, 33, 36, 73, 74, 75, 76, 77, 78, 79, 80, 35, 81, 82, 83, 84, 39, 85, 86, 87, 88, 32, 112, 113, 114, 115, 116, 117, 118, 119, 120, 121, 122, 123] (by decide +kernel) (by decide +kernel)
set_option maxRecDepth 20000 in
theorem gX1_move_X0_passNights : GoodIn wsX1_move (wsV RX1 150 RX0 yX0_passNights wsX0_passNights) := goodIn_app (goodIn_of _ (by decide +kernel)) ggX1_move_X0_passNights
set_option maxRecDepth 20000 in
theorem ggX1_move_X0_wordsOf : GoodIn wsX1_move wsX0_wordsOf := goodIn_r _ [92, 37, 112, 113, 114, 115, 116, 117, 118, 119, 120, 121, 122, 123] (by decide +kernel) (by decide +kernel)
set_option maxRecDepth 20000 in
theorem gX1_move_X0_wordsOf : GoodIn wsX1_move (wsV RX1 109 RX0 yX0_wordsOf wsX0_wordsOf) := goodIn_app (goodIn_of _ (by decide +kernel)) ggX1_move_X0_wordsOf
set_option maxRecDepth 20000 in
theorem ggX1_move_J6_bitCount_0f7a4 : GoodIn wsX1_move wsJ6_bitCount_0f7a4 := goodIn_r _ [96, 97, 98, 99] (by decide +kernel) (by decide +kernel)
set_option maxRecDepth 20000 in
theorem gX1_move_J6_bitCount_0f7a4 : GoodIn wsX1_move (va_wsS RX1 135 yJ6_bitCount_0f7a4 wsJ6_bitCount_0f7a4) := goodIn_app (goodIn_of _ (by decide +kernel)) ggX1_move_J6_bitCount_0f7a4
theorem dX1_move_0 : decode cX1_move 0 = .ok (.aload_n 0, 1) := by decide +kernel
theorem dX1_move_1 : decode cX1_move 1 = .ok (.getfield 10, 3) := by decide +kernel
theorem dX1_move_4 : decode cX1_move 4 = .ok (.iload_n 1, 1) := by decide +kernel
theorem dX1_move_5 : decode cX1_move 5 = .ok (.invokevirtual 100, 3) := by decide +kernel
theorem dX1_move_8 : decode cX1_move 8 = .ok (.ifCond .ne 9, 3) := by decide +kernel
theorem dX1_move_11 : decode cX1_move 11 = .ok (.aload_n 0, 1) := by decide +kernel
theorem dX1_move_12 : decode cX1_move 12 = .ok (.iconst (-1), 1) := by decide +kernel
theorem dX1_move_13 : decode cX1_move 13 = .ok (.invokevirtual 52, 3) := by decide +kernel
theorem dX1_move_16 : decode cX1_move 16 = .ok (.ireturn, 1) := by decide +kernel
theorem dX1_move_17 : decode cX1_move 17 = .ok (.iload_n 2, 1) := by decide +kernel
theorem dX1_move_18 : decode cX1_move 18 = .ok (.iconst 0, 1) := by decide +kernel
theorem dX1_move_19 : decode cX1_move 19 = .ok (.bipush 30, 2) := by decide +kernel
theorem dX1_move_21 : decode cX1_move 21 = .ok (.invokestatic 140, 3) := by decide +kernel
theorem dX1_move_24 : decode cX1_move 24 = .ok (.istore 4, 2) := by decide +kernel
theorem dX1_move_26 : decode cX1_move 26 = .ok (.iload 4, 2) := by decide +kernel
theorem dX1_move_28 : decode cX1_move 28 = .ok (.ifCond .eq 10, 3) := by decide +kernel
theorem dX1_move_31 : decode cX1_move 31 = .ok (.aload_n 0, 1) := by decide +kernel
theorem dX1_move_32 : decode cX1_move 32 = .ok (.iload 4, 2) := by decide +kernel
theorem dX1_move_34 : decode cX1_move 34 = .ok (.invokevirtual 52, 3) := by decide +kernel
theorem dX1_move_37 : decode cX1_move 37 = .ok (.ireturn, 1) := by decide +kernel
theorem dX1_move_38 : decode cX1_move 38 = .ok (.iload_n 3, 1) := by decide +kernel
theorem dX1_move_39 : decode cX1_move 39 = .ok (.invokestatic 156, 3) := by decide +kernel
theorem dX1_move_42 : decode cX1_move 42 = .ok (.ifCond .ne 10, 3) := by decide +kernel
theorem dX1_move_45 : decode cX1_move 45 = .ok (.aload_n 0, 1) := by decide +kernel
theorem dX1_move_46 : decode cX1_move 46 = .ok (.bipush (-2), 2) := by decide +kernel
theorem dX1_move_48 : decode cX1_move 48 = .ok (.invokevirtual 52, 3) := by decide +kernel
theorem dX1_move_51 : decode cX1_move 51 = .ok (.ireturn, 1) := by decide +kernel
theorem dX1_move_52 : decode cX1_move 52 = .ok (.iconst 0, 1) := by decide +kernel
theorem dX1_move_53 : decode cX1_move 53 = .ok (.istore 5, 2) := by decide +kernel
theorem dX1_move_55 : decode cX1_move 55 = .ok (.iconst (-1), 1) := by decide +kernel
theorem dX1_move_56 : decode cX1_move 56 = .ok (.istore 6, 2) := by decide +kernel
theorem dX1_move_58 : decode cX1_move 58 = .ok (.iconst 0, 1) := by decide +kernel
theorem dX1_move_59 : decode cX1_move 59 = .ok (.istore 7, 2) := by decide +kernel
theorem dX1_move_61 : decode cX1_move 61 = .ok (.iload 7, 2) := by decide +kernel
theorem dX1_move_63 : decode cX1_move 63 = .ok (.bipush 20, 2) := by decide +kernel
theorem dX1_move_65 : decode cX1_move 65 = .ok (.if_icmp .ge 69, 3) := by decide +kernel
theorem dX1_move_68 : decode cX1_move 68 = .ok (.aload_n 0, 1) := by decide +kernel
theorem dX1_move_69 : decode cX1_move 69 = .ok (.getfield 16, 3) := by decide +kernel
theorem dX1_move_72 : decode cX1_move 72 = .ok (.aload_n 0, 1) := by decide +kernel
theorem dX1_move_73 : decode cX1_move 73 = .ok (.getfield 10, 3) := by decide +kernel
theorem dX1_move_76 : decode cX1_move 76 = .ok (.invokevirtual 59, 3) := by decide +kernel
theorem dX1_move_79 : decode cX1_move 79 = .ok (.aload_n 0, 1) := by decide +kernel
theorem dX1_move_80 : decode cX1_move 80 = .ok (.getfield 16, 3) := by decide +kernel
theorem dX1_move_83 : decode cX1_move 83 = .ok (.getfield 103, 3) := by decide +kernel
theorem dX1_move_86 : decode cX1_move 86 = .ok (.iload_n 1, 1) := by decide +kernel
theorem dX1_move_87 : decode cX1_move 87 = .ok (.iload 7, 2) := by decide +kernel
theorem dX1_move_89 : decode cX1_move 89 = .ok (.iastore, 1) := by decide +kernel
theorem dX1_move_90 : decode cX1_move 90 = .ok (.aload_n 0, 1) := by decide +kernel
theorem dX1_move_91 : decode cX1_move 91 = .ok (.getfield 16, 3) := by decide +kernel
theorem dX1_move_94 : decode cX1_move 94 = .ok (.iload_n 2, 1) := by decide +kernel
theorem dX1_move_95 : decode cX1_move 95 = .ok (.bipush 31, 2) := by decide +kernel
theorem dX1_move_97 : decode cX1_move 97 = .ok (.invokevirtual 150, 3) := by decide +kernel
theorem dX1_move_100 : decode cX1_move 100 = .ok (.aload_n 0, 1) := by decide +kernel
theorem dX1_move_101 : decode cX1_move 101 = .ok (.getfield 16, 3) := by decide +kernel
theorem dX1_move_104 : decode cX1_move 104 = .ok (.iload_n 1, 1) := by decide +kernel
theorem dX1_move_105 : decode cX1_move 105 = .ok (.invokevirtual 109, 3) := by decide +kernel
theorem dX1_move_108 : decode cX1_move 108 = .ok (.invokestatic 135, 3) := by decide +kernel
theorem dX1_move_111 : decode cX1_move 111 = .ok (.istore 8, 2) := by decide +kernel
theorem dX1_move_113 : decode cX1_move 113 = .ok (.iload 8, 2) := by decide +kernel
theorem dX1_move_115 : decode cX1_move 115 = .ok (.iload 6, 2) := by decide +kernel
theorem dX1_move_117 : decode cX1_move 117 = .ok (.if_icmp .le 11, 3) := by decide +kernel
theorem dX1_move_120 : decode cX1_move 120 = .ok (.iload 8, 2) := by decide +kernel
theorem dX1_move_122 : decode cX1_move 122 = .ok (.istore 6, 2) := by decide +kernel
theorem dX1_move_124 : decode cX1_move 124 = .ok (.iload 7, 2) := by decide +kernel
theorem dX1_move_126 : decode cX1_move 126 = .ok (.istore 5, 2) := by decide +kernel
theorem dX1_move_128 : decode cX1_move 128 = .ok (.iinc 7 1, 3) := by decide +kernel
theorem dX1_move_131 : decode cX1_move 131 = .ok (.goto (-70), 3) := by decide +kernel
theorem dX1_move_134 : decode cX1_move 134 = .ok (.iload_n 3, 1) := by decide +kernel
theorem dX1_move_135 : decode cX1_move 135 = .ok (.ifCond .ne 8, 3) := by decide +kernel
theorem dX1_move_138 : decode cX1_move 138 = .ok (.iload 5, 2) := by decide +kernel
theorem dX1_move_140 : decode cX1_move 140 = .ok (.goto 5, 3) := by decide +kernel
theorem dX1_move_143 : decode cX1_move 143 = .ok (.iload 6, 2) := by decide +kernel
theorem dX1_move_145 : decode cX1_move 145 = .ok (.ireturn, 1) := by decide +kernel
set_option maxRecDepth 20000 in
theorem ggX1_forgo_X1_outside : GoodIn wsX1_forgo wsX1_outside := goodIn_r _ [4] (by decide +kernel) (by decide +kernel)
set_option maxRecDepth 20000 in
theorem gX1_forgo_X1_outside : GoodIn wsX1_forgo (va_wsS RX1 140 yX1_outside wsX1_outside) := goodIn_app (goodIn_of _ (by decide +kernel)) ggX1_forgo_X1_outside
set_option maxRecDepth 20000 in
theorem ggX1_forgo_X1_refuse : GoodIn wsX1_forgo wsX1_refuse := goodIn_r _ [8, 9, 113, 114, 115, 116, 117, 118, 119, 120, 121, 122, 123, 124] (by decide +kernel) (by decide +kernel)
set_option maxRecDepth 20000 in
theorem gX1_forgo_X1_refuse : GoodIn wsX1_forgo (wsV RX1 52 RX1 yX1_refuse wsX1_refuse) := goodIn_app (goodIn_of _ (by decide +kernel)) ggX1_forgo_X1_refuse
set_option maxRecDepth 20000 in
theorem ggX1_forgo_X1_bestToSpend : GoodIn wsX1_forgo wsX1_bestToSpend := goodIn_r _ [13, 14, 15, 16, 17, 18, 19, 3, 20, 21, 22, 23, 24, 25, 26, 27, 28, 29, 30, 31, 32, 33, 34, 35, 36, 37, 38, 39, 40, 41, 42, 43, 44, 45, 46, 47, 48, 49, 50, 51, 52, 53, 54, 55, 56, 57, 58, 59, 60, 61, 62, 63, 64, 65, 66, 67, 68, 69, 70, 71, 72, 73, 74, 75, 76, 77, 78, 79, 80, 81, 82, 83, 84, 85, 86, 87, 88, 89, 90, 91, 92, 93, 94, 95, 96, 97, 98, 99, 100, 101, 102, 103, 104, 105, 106, 107, 108, 109, 110, 111, 112, 113, 114, 115, 116, 117, 118, 119, 120, 121, 122, 123, 124, 125, 126, 127, 128, 129, 130, 131, 132, 133, 134, 135, 136] (by decide +kernel) (by decide +kernel)
set_option maxRecDepth 20000 in
theorem gX1_forgo_X1_bestToSpend : GoodIn wsX1_forgo (wsV RX1 184 RX1 yX1_bestToSpend wsX1_bestToSpend) := goodIn_app (goodIn_of _ (by decide +kernel)) ggX1_forgo_X1_bestToSpend
theorem dX1_forgo_0 : decode cX1_forgo 0 = .ok (.iload_n 1, 1) := by decide +kernel
theorem dX1_forgo_1 : decode cX1_forgo 1 = .ok (.iconst 1, 1) := by decide +kernel
theorem dX1_forgo_2 : decode cX1_forgo 2 = .ok (.bipush 30, 2) := by decide +kernel
theorem dX1_forgo_4 : decode cX1_forgo 4 = .ok (.invokestatic 140, 3) := by decide +kernel
theorem dX1_forgo_7 : decode cX1_forgo 7 = .ok (.istore_n 2, 1) := by decide +kernel
theorem dX1_forgo_8 : decode cX1_forgo 8 = .ok (.iload_n 2, 1) := by decide +kernel
theorem dX1_forgo_9 : decode cX1_forgo 9 = .ok (.ifCond .eq 9, 3) := by decide +kernel
theorem dX1_forgo_12 : decode cX1_forgo 12 = .ok (.aload_n 0, 1) := by decide +kernel
theorem dX1_forgo_13 : decode cX1_forgo 13 = .ok (.iload_n 2, 1) := by decide +kernel
theorem dX1_forgo_14 : decode cX1_forgo 14 = .ok (.invokevirtual 52, 3) := by decide +kernel
theorem dX1_forgo_17 : decode cX1_forgo 17 = .ok (.ireturn, 1) := by decide +kernel
theorem dX1_forgo_18 : decode cX1_forgo 18 = .ok (.aload_n 0, 1) := by decide +kernel
theorem dX1_forgo_19 : decode cX1_forgo 19 = .ok (.iload_n 1, 1) := by decide +kernel
theorem dX1_forgo_20 : decode cX1_forgo 20 = .ok (.iconst 0, 1) := by decide +kernel
theorem dX1_forgo_21 : decode cX1_forgo 21 = .ok (.invokevirtual 184, 3) := by decide +kernel
theorem dX1_forgo_24 : decode cX1_forgo 24 = .ok (.ireturn, 1) := by decide +kernel
set_option maxRecDepth 20000 in
theorem ggX1_firstUp_X1_outside : GoodIn wsX1_firstUp wsX1_outside := goodIn_r _ [4] (by decide +kernel) (by decide +kernel)
set_option maxRecDepth 20000 in
theorem gX1_firstUp_X1_outside : GoodIn wsX1_firstUp (va_wsS RX1 140 yX1_outside wsX1_outside) := goodIn_app (goodIn_of _ (by decide +kernel)) ggX1_firstUp_X1_outside
set_option maxRecDepth 20000 in
theorem ggX1_firstUp_X1_refuse : GoodIn wsX1_firstUp wsX1_refuse := goodIn_r _ [8, 9, 113, 114, 115, 116, 117, 118, 119, 120, 121, 122, 123, 124] (by decide +kernel) (by decide +kernel)
set_option maxRecDepth 20000 in
theorem gX1_firstUp_X1_refuse : GoodIn wsX1_firstUp (wsV RX1 52 RX1 yX1_refuse wsX1_refuse) := goodIn_app (goodIn_of _ (by decide +kernel)) ggX1_firstUp_X1_refuse
set_option maxRecDepth 20000 in
theorem ggX1_firstUp_X1_bestToSpend : GoodIn wsX1_firstUp wsX1_bestToSpend := goodIn_r _ [13, 14, 15, 16, 17, 18, 19, 3, 20, 21, 22, 23, 24, 25, 26, 27, 28, 29, 30, 31, 32, 33, 34, 35, 36, 37, 38, 39, 40, 41, 42, 43, 44, 45, 46, 47, 48, 49, 50, 51, 52, 53, 54, 55, 56, 57, 58, 59, 60, 61, 62, 63, 64, 65, 66, 67, 68, 69, 70, 71, 72, 73, 74, 75, 76, 77, 78, 79, 80, 81, 82, 83, 84, 85, 86, 87, 88, 89, 90, 91, 92, 93, 94, 95, 96, 97, 98, 99, 100, 101, 102, 103, 104, 105, 106, 107, 108, 109, 110, 111, 112, 113, 114, 115, 116, 117, 118, 119, 120, 121, 122, 123, 124, 125, 126, 127, 128, 129, 130, 131, 132, 133, 134, 135, 136] (by decide +kernel) (by decide +kernel)
set_option maxRecDepth 20000 in
theorem gX1_firstUp_X1_bestToSpend : GoodIn wsX1_firstUp (wsV RX1 184 RX1 yX1_bestToSpend wsX1_bestToSpend) := goodIn_app (goodIn_of _ (by decide +kernel)) ggX1_firstUp_X1_bestToSpend
theorem dX1_firstUp_0 : decode cX1_firstUp 0 = .ok (.iload_n 1, 1) := by decide +kernel
theorem dX1_firstUp_1 : decode cX1_firstUp 1 = .ok (.iconst 1, 1) := by decide +kernel
theorem dX1_firstUp_2 : decode cX1_firstUp 2 = .ok (.bipush 30, 2) := by decide +kernel
theorem dX1_firstUp_4 : decode cX1_firstUp 4 = .ok (.invokestatic 140, 3) := by decide +kernel
theorem dX1_firstUp_7 : decode cX1_firstUp 7 = .ok (.istore_n 2, 1) := by decide +kernel
theorem dX1_firstUp_8 : decode cX1_firstUp 8 = .ok (.iload_n 2, 1) := by decide +kernel
theorem dX1_firstUp_9 : decode cX1_firstUp 9 = .ok (.ifCond .eq 9, 3) := by decide +kernel
theorem dX1_firstUp_12 : decode cX1_firstUp 12 = .ok (.aload_n 0, 1) := by decide +kernel
theorem dX1_firstUp_13 : decode cX1_firstUp 13 = .ok (.iload_n 2, 1) := by decide +kernel
theorem dX1_firstUp_14 : decode cX1_firstUp 14 = .ok (.invokevirtual 52, 3) := by decide +kernel
theorem dX1_firstUp_17 : decode cX1_firstUp 17 = .ok (.ireturn, 1) := by decide +kernel
theorem dX1_firstUp_18 : decode cX1_firstUp 18 = .ok (.aload_n 0, 1) := by decide +kernel
theorem dX1_firstUp_19 : decode cX1_firstUp 19 = .ok (.iload_n 1, 1) := by decide +kernel
theorem dX1_firstUp_20 : decode cX1_firstUp 20 = .ok (.iconst 1, 1) := by decide +kernel
theorem dX1_firstUp_21 : decode cX1_firstUp 21 = .ok (.invokevirtual 184, 3) := by decide +kernel
theorem dX1_firstUp_24 : decode cX1_firstUp 24 = .ok (.ireturn, 1) := by decide +kernel
set_option maxRecDepth 20000 in
theorem ggX1_longest_X1_isOneOfTwo : GoodIn wsX1_longest wsX1_isOneOfTwo := goodIn_r _ [4] (by decide +kernel) (by decide +kernel)
set_option maxRecDepth 20000 in
theorem gX1_longest_X1_isOneOfTwo : GoodIn wsX1_longest (va_wsS RX1 156 yX1_isOneOfTwo wsX1_isOneOfTwo) := goodIn_app (goodIn_of _ (by decide +kernel)) ggX1_longest_X1_isOneOfTwo
set_option maxRecDepth 20000 in
theorem ggX1_longest_X1_refuse : GoodIn wsX1_longest wsX1_refuse := goodIn_r _ [8, 9, 36, 37, 38, 39, 40, 41, 42, 43, 44, 45, 46, 47] (by decide +kernel) (by decide +kernel)
set_option maxRecDepth 20000 in
theorem gX1_longest_X1_refuse : GoodIn wsX1_longest (wsV RX1 52 RX1 yX1_refuse wsX1_refuse) := goodIn_app (goodIn_of _ (by decide +kernel)) ggX1_longest_X1_refuse
set_option maxRecDepth 20000 in
theorem ggX1_longest_X1_longestDark : GoodIn wsX1_longest wsX1_longestDark := goodIn_r _ [13, 14, 15, 16, 17, 18, 19, 20, 21, 22, 36, 37, 38, 39, 40, 41, 42, 43, 44, 45, 46, 47, 48, 49, 50, 51, 52, 53, 54, 55, 56, 57, 58, 59] (by decide +kernel) (by decide +kernel)
set_option maxRecDepth 20000 in
theorem gX1_longest_X1_longestDark : GoodIn wsX1_longest (wsV RX1 188 RX1 yX1_longestDark wsX1_longestDark) := goodIn_app (goodIn_of _ (by decide +kernel)) ggX1_longest_X1_longestDark
set_option maxRecDepth 20000 in
theorem ggX1_longest_X1_costOfTheBox : GoodIn wsX1_longest wsX1_costOfTheBox := goodIn_r _ [26, 14, 27, 28, 29, 30, 3, 31, 15, 32, 33, 34, 19, 35, 22, 36, 37, 38, 39, 40, 41, 42, 43, 44, 45, 46, 47, 48, 49, 50, 51, 52, 53, 54, 55, 56, 57, 58, 59] (by decide +kernel) (by decide +kernel)
set_option maxRecDepth 20000 in
theorem gX1_longest_X1_costOfTheBox : GoodIn wsX1_longest (wsV RX1 191 RX1 yX1_costOfTheBox wsX1_costOfTheBox) := goodIn_app (goodIn_of _ (by decide +kernel)) ggX1_longest_X1_costOfTheBox
theorem dX1_longest_0 : decode cX1_longest 0 = .ok (.iload_n 1, 1) := by decide +kernel
theorem dX1_longest_1 : decode cX1_longest 1 = .ok (.invokestatic 156, 3) := by decide +kernel
theorem dX1_longest_4 : decode cX1_longest 4 = .ok (.ifCond .ne 10, 3) := by decide +kernel
theorem dX1_longest_7 : decode cX1_longest 7 = .ok (.aload_n 0, 1) := by decide +kernel
theorem dX1_longest_8 : decode cX1_longest 8 = .ok (.bipush (-2), 2) := by decide +kernel
theorem dX1_longest_10 : decode cX1_longest 10 = .ok (.invokevirtual 52, 3) := by decide +kernel
theorem dX1_longest_13 : decode cX1_longest 13 = .ok (.ireturn, 1) := by decide +kernel
theorem dX1_longest_14 : decode cX1_longest 14 = .ok (.iload_n 1, 1) := by decide +kernel
theorem dX1_longest_15 : decode cX1_longest 15 = .ok (.ifCond .ne 10, 3) := by decide +kernel
theorem dX1_longest_18 : decode cX1_longest 18 = .ok (.aload_n 0, 1) := by decide +kernel
theorem dX1_longest_19 : decode cX1_longest 19 = .ok (.invokevirtual 188, 3) := by decide +kernel
theorem dX1_longest_22 : decode cX1_longest 22 = .ok (.goto 7, 3) := by decide +kernel
theorem dX1_longest_25 : decode cX1_longest 25 = .ok (.aload_n 0, 1) := by decide +kernel
theorem dX1_longest_26 : decode cX1_longest 26 = .ok (.invokevirtual 191, 3) := by decide +kernel
theorem dX1_longest_29 : decode cX1_longest 29 = .ok (.ireturn, 1) := by decide +kernel
set_option maxRecDepth 20000 in
theorem ggX1_seen_X1_isOneOfTwo : GoodIn wsX1_seen wsX1_isOneOfTwo := goodIn_r _ [6] (by decide +kernel) (by decide +kernel)
set_option maxRecDepth 20000 in
theorem gX1_seen_X1_isOneOfTwo : GoodIn wsX1_seen (va_wsS RX1 156 yX1_isOneOfTwo wsX1_isOneOfTwo) := goodIn_app (goodIn_of _ (by decide +kernel)) ggX1_seen_X1_isOneOfTwo
set_option maxRecDepth 20000 in
theorem ggX1_seen_X1_refuse : GoodIn wsX1_seen wsX1_refuse := goodIn_r _ [10, 11, 37, 38, 39, 40, 41, 42, 43, 44, 45, 46, 47, 48] (by decide +kernel) (by decide +kernel)
set_option maxRecDepth 20000 in
theorem gX1_seen_X1_refuse : GoodIn wsX1_seen (wsV RX1 52 RX1 yX1_refuse wsX1_refuse) := goodIn_app (goodIn_of _ (by decide +kernel)) ggX1_seen_X1_refuse
set_option maxRecDepth 20000 in
theorem ggX1_seen_X0_readersOf : GoodIn wsX1_seen wsX0_readersOf := goodIn_r _ [16, 17, 18, 19, 20, 21, 15, 22, 23, 24, 25, 26, 27, 28, 29, 49, 50, 51, 52, 53, 54, 55, 56, 57, 58, 59, 60] (by decide +kernel) (by decide +kernel)
set_option maxRecDepth 20000 in
theorem gX1_seen_X0_readersOf : GoodIn wsX1_seen (wsV RX1 97 RX0 yX0_readersOf wsX0_readersOf) := goodIn_app (goodIn_of _ (by decide +kernel)) ggX1_seen_X0_readersOf
set_option maxRecDepth 20000 in
theorem ggX1_seen_J6_bitCount_0f7a4 : GoodIn wsX1_seen wsJ6_bitCount_0f7a4 := goodIn_r _ [33, 34, 35, 36] (by decide +kernel) (by decide +kernel)
set_option maxRecDepth 20000 in
theorem gX1_seen_J6_bitCount_0f7a4 : GoodIn wsX1_seen (va_wsS RX1 135 yJ6_bitCount_0f7a4 wsJ6_bitCount_0f7a4) := goodIn_app (goodIn_of _ (by decide +kernel)) ggX1_seen_J6_bitCount_0f7a4
theorem dX1_seen_0 : decode cX1_seen 0 = .ok (.iload_n 1, 1) := by decide +kernel
theorem dX1_seen_1 : decode cX1_seen 1 = .ok (.invokestatic 156, 3) := by decide +kernel
theorem dX1_seen_4 : decode cX1_seen 4 = .ok (.ifCond .ne 10, 3) := by decide +kernel
theorem dX1_seen_7 : decode cX1_seen 7 = .ok (.aload_n 0, 1) := by decide +kernel
theorem dX1_seen_8 : decode cX1_seen 8 = .ok (.bipush (-2), 2) := by decide +kernel
theorem dX1_seen_10 : decode cX1_seen 10 = .ok (.invokevirtual 52, 3) := by decide +kernel
theorem dX1_seen_13 : decode cX1_seen 13 = .ok (.ireturn, 1) := by decide +kernel
theorem dX1_seen_14 : decode cX1_seen 14 = .ok (.bipush (-9), 2) := by decide +kernel
theorem dX1_seen_16 : decode cX1_seen 16 = .ok (.istore_n 2, 1) := by decide +kernel
theorem dX1_seen_17 : decode cX1_seen 17 = .ok (.iconst 0, 1) := by decide +kernel
theorem dX1_seen_18 : decode cX1_seen 18 = .ok (.istore_n 3, 1) := by decide +kernel
theorem dX1_seen_19 : decode cX1_seen 19 = .ok (.iconst 0, 1) := by decide +kernel
theorem dX1_seen_20 : decode cX1_seen 20 = .ok (.istore 4, 2) := by decide +kernel
theorem dX1_seen_22 : decode cX1_seen 22 = .ok (.iload 4, 2) := by decide +kernel
theorem dX1_seen_24 : decode cX1_seen 24 = .ok (.aload_n 0, 1) := by decide +kernel
theorem dX1_seen_25 : decode cX1_seen 25 = .ok (.getfield 10, 3) := by decide +kernel
theorem dX1_seen_28 : decode cX1_seen 28 = .ok (.getfield 129, 3) := by decide +kernel
theorem dX1_seen_31 : decode cX1_seen 31 = .ok (.if_icmp .ge 41, 3) := by decide +kernel
theorem dX1_seen_34 : decode cX1_seen 34 = .ok (.aload_n 0, 1) := by decide +kernel
theorem dX1_seen_35 : decode cX1_seen 35 = .ok (.getfield 10, 3) := by decide +kernel
theorem dX1_seen_38 : decode cX1_seen 38 = .ok (.iload 4, 2) := by decide +kernel
theorem dX1_seen_40 : decode cX1_seen 40 = .ok (.invokevirtual 97, 3) := by decide +kernel
theorem dX1_seen_43 : decode cX1_seen 43 = .ok (.invokestatic 135, 3) := by decide +kernel
theorem dX1_seen_46 : decode cX1_seen 46 = .ok (.istore 5, 2) := by decide +kernel
theorem dX1_seen_48 : decode cX1_seen 48 = .ok (.iload_n 2, 1) := by decide +kernel
theorem dX1_seen_49 : decode cX1_seen 49 = .ok (.bipush (-9), 2) := by decide +kernel
theorem dX1_seen_51 : decode cX1_seen 51 = .ok (.if_icmp .eq 9, 3) := by decide +kernel
theorem dX1_seen_54 : decode cX1_seen 54 = .ok (.iload 5, 2) := by decide +kernel
theorem dX1_seen_56 : decode cX1_seen 56 = .ok (.iload_n 3, 1) := by decide +kernel
theorem dX1_seen_57 : decode cX1_seen 57 = .ok (.if_icmp .le 9, 3) := by decide +kernel
theorem dX1_seen_60 : decode cX1_seen 60 = .ok (.iload 5, 2) := by decide +kernel
theorem dX1_seen_62 : decode cX1_seen 62 = .ok (.istore_n 3, 1) := by decide +kernel
theorem dX1_seen_63 : decode cX1_seen 63 = .ok (.iload 4, 2) := by decide +kernel
theorem dX1_seen_65 : decode cX1_seen 65 = .ok (.istore_n 2, 1) := by decide +kernel
theorem dX1_seen_66 : decode cX1_seen 66 = .ok (.iinc 4 1, 3) := by decide +kernel
theorem dX1_seen_69 : decode cX1_seen 69 = .ok (.goto (-47), 3) := by decide +kernel
theorem dX1_seen_72 : decode cX1_seen 72 = .ok (.iload_n 1, 1) := by decide +kernel
theorem dX1_seen_73 : decode cX1_seen 73 = .ok (.ifCond .ne 7, 3) := by decide +kernel
theorem dX1_seen_76 : decode cX1_seen 76 = .ok (.iload_n 3, 1) := by decide +kernel
theorem dX1_seen_77 : decode cX1_seen 77 = .ok (.goto 4, 3) := by decide +kernel
theorem dX1_seen_80 : decode cX1_seen 80 = .ok (.iload_n 2, 1) := by decide +kernel
theorem dX1_seen_81 : decode cX1_seen 81 = .ok (.ireturn, 1) := by decide +kernel
set_option maxRecDepth 20000 in
theorem ggX1_words_X1_lackingWords : GoodIn wsX1_words wsX1_lackingWords := goodIn_r _ [5, 6, 7, 8, 29, 30, 31, 32, 33, 34, 35, 36, 37, 38, 39, 40, 41, 42, 43, 44, 45, 46, 47, 48, 49, 50, 51, 52] (by decide +kernel) (by decide +kernel)
set_option maxRecDepth 20000 in
theorem gX1_words_X1_lackingWords : GoodIn wsX1_words (wsV RX1 194 RX1 yX1_lackingWords wsX1_lackingWords) := goodIn_app (goodIn_of _ (by decide +kernel)) ggX1_words_X1_lackingWords
set_option maxRecDepth 20000 in
theorem ggX1_words_X1_knownWords : GoodIn wsX1_words wsX1_knownWords := goodIn_r _ [12, 6, 13, 14, 15, 16, 17, 18, 19, 29, 30, 31, 32, 33, 34, 35, 36, 37, 38, 39, 40, 41, 42, 43, 44, 45, 46, 47, 48, 49, 50, 51, 52] (by decide +kernel) (by decide +kernel)
set_option maxRecDepth 20000 in
theorem gX1_words_X1_knownWords : GoodIn wsX1_words (wsV RX1 197 RX1 yX1_knownWords wsX1_knownWords) := goodIn_app (goodIn_of _ (by decide +kernel)) ggX1_words_X1_knownWords
set_option maxRecDepth 20000 in
theorem ggX1_words_X1_rarestWord : GoodIn wsX1_words wsX1_rarestWord := goodIn_r _ [23, 6, 13, 14, 15, 16, 17, 18, 19, 29, 30, 31, 32, 33, 34, 35, 36, 37, 38, 39, 40, 41, 42, 43, 44, 45, 46, 47, 48, 49, 50, 51, 52] (by decide +kernel) (by decide +kernel)
set_option maxRecDepth 20000 in
theorem gX1_words_X1_rarestWord : GoodIn wsX1_words (wsV RX1 200 RX1 yX1_rarestWord wsX1_rarestWord) := goodIn_app (goodIn_of _ (by decide +kernel)) ggX1_words_X1_rarestWord
set_option maxRecDepth 20000 in
theorem ggX1_words_X1_refuse : GoodIn wsX1_words wsX1_refuse := goodIn_r _ [27, 28, 29, 30, 31, 32, 33, 34, 35, 36, 37, 38, 39, 40] (by decide +kernel) (by decide +kernel)
set_option maxRecDepth 20000 in
theorem gX1_words_X1_refuse : GoodIn wsX1_words (wsV RX1 52 RX1 yX1_refuse wsX1_refuse) := goodIn_app (goodIn_of _ (by decide +kernel)) ggX1_words_X1_refuse
theorem dX1_words_0 : decode cX1_words 0 = .ok (.iload_n 1, 1) := by decide +kernel
theorem dX1_words_1 : decode cX1_words 1 = .ok (.tableswitch 42 0 2 #[27, 32, 37], 27) := by decide +kernel
theorem dX1_words_28 : decode cX1_words 28 = .ok (.aload_n 0, 1) := by decide +kernel
theorem dX1_words_29 : decode cX1_words 29 = .ok (.invokevirtual 194, 3) := by decide +kernel
theorem dX1_words_32 : decode cX1_words 32 = .ok (.ireturn, 1) := by decide +kernel
theorem dX1_words_33 : decode cX1_words 33 = .ok (.aload_n 0, 1) := by decide +kernel
theorem dX1_words_34 : decode cX1_words 34 = .ok (.invokevirtual 197, 3) := by decide +kernel
theorem dX1_words_37 : decode cX1_words 37 = .ok (.ireturn, 1) := by decide +kernel
theorem dX1_words_38 : decode cX1_words 38 = .ok (.aload_n 0, 1) := by decide +kernel
theorem dX1_words_39 : decode cX1_words 39 = .ok (.invokevirtual 200, 3) := by decide +kernel
theorem dX1_words_42 : decode cX1_words 42 = .ok (.ireturn, 1) := by decide +kernel
theorem dX1_words_43 : decode cX1_words 43 = .ok (.aload_n 0, 1) := by decide +kernel
theorem dX1_words_44 : decode cX1_words 44 = .ok (.bipush (-2), 2) := by decide +kernel
theorem dX1_words_46 : decode cX1_words 46 = .ok (.invokevirtual 52, 3) := by decide +kernel
theorem dX1_words_49 : decode cX1_words 49 = .ok (.ireturn, 1) := by decide +kernel
theorem dX1_near_0 : decode cX1_near 0 = .ok (.bipush (-9), 2) := by decide +kernel
theorem dX1_near_2 : decode cX1_near 2 = .ok (.istore_n 1, 1) := by decide +kernel
theorem dX1_near_3 : decode cX1_near 3 = .ok (.bipush 20, 2) := by decide +kernel
theorem dX1_near_5 : decode cX1_near 5 = .ok (.istore_n 2, 1) := by decide +kernel
theorem dX1_near_6 : decode cX1_near 6 = .ok (.iconst 0, 1) := by decide +kernel
theorem dX1_near_7 : decode cX1_near 7 = .ok (.istore_n 3, 1) := by decide +kernel
theorem dX1_near_8 : decode cX1_near 8 = .ok (.iload_n 3, 1) := by decide +kernel
theorem dX1_near_9 : decode cX1_near 9 = .ok (.aload_n 0, 1) := by decide +kernel
theorem dX1_near_10 : decode cX1_near 10 = .ok (.getfield 10, 3) := by decide +kernel
theorem dX1_near_13 : decode cX1_near 13 = .ok (.getfield 203, 3) := by decide +kernel
theorem dX1_near_16 : decode cX1_near 16 = .ok (.if_icmp .ge 37, 3) := by decide +kernel
theorem dX1_near_19 : decode cX1_near 19 = .ok (.aload_n 0, 1) := by decide +kernel
theorem dX1_near_20 : decode cX1_near 20 = .ok (.getfield 10, 3) := by decide +kernel
theorem dX1_near_23 : decode cX1_near 23 = .ok (.getfield 103, 3) := by decide +kernel
theorem dX1_near_26 : decode cX1_near 26 = .ok (.iload_n 3, 1) := by decide +kernel
theorem dX1_near_27 : decode cX1_near 27 = .ok (.iaload, 1) := by decide +kernel
theorem dX1_near_28 : decode cX1_near 28 = .ok (.bipush 10, 2) := by decide +kernel
theorem dX1_near_30 : decode cX1_near 30 = .ok (.isub, 1) := by decide +kernel
theorem dX1_near_31 : decode cX1_near 31 = .ok (.invokestatic 206, 3) := by decide +kernel
theorem dX1_near_34 : decode cX1_near 34 = .ok (.istore 4, 2) := by decide +kernel
theorem dX1_near_36 : decode cX1_near 36 = .ok (.iload 4, 2) := by decide +kernel
theorem dX1_near_38 : decode cX1_near 38 = .ok (.iload_n 2, 1) := by decide +kernel
theorem dX1_near_39 : decode cX1_near 39 = .ok (.if_icmp .ge 8, 3) := by decide +kernel
theorem dX1_near_42 : decode cX1_near 42 = .ok (.iload 4, 2) := by decide +kernel
theorem dX1_near_44 : decode cX1_near 44 = .ok (.istore_n 2, 1) := by decide +kernel
theorem dX1_near_45 : decode cX1_near 45 = .ok (.iload_n 3, 1) := by decide +kernel
theorem dX1_near_46 : decode cX1_near 46 = .ok (.istore_n 1, 1) := by decide +kernel
theorem dX1_near_47 : decode cX1_near 47 = .ok (.iinc 3 1, 3) := by decide +kernel
theorem dX1_near_50 : decode cX1_near 50 = .ok (.goto (-42), 3) := by decide +kernel
theorem dX1_near_53 : decode cX1_near 53 = .ok (.iload_n 1, 1) := by decide +kernel
theorem dX1_near_54 : decode cX1_near 54 = .ok (.ireturn, 1) := by decide +kernel
set_option maxRecDepth 20000 in
theorem ggX1_alone_X0_wordsOf : GoodIn wsX1_alone wsX0_wordsOf := goodIn_r _ [7, 8, 21, 22, 23, 24, 25, 26, 27, 28, 29, 30, 31, 32] (by decide +kernel) (by decide +kernel)
set_option maxRecDepth 20000 in
theorem gX1_alone_X0_wordsOf : GoodIn wsX1_alone (wsV RX1 109 RX0 yX0_wordsOf wsX0_wordsOf) := goodIn_app (goodIn_of _ (by decide +kernel)) ggX1_alone_X0_wordsOf
theorem dX1_alone_0 : decode cX1_alone 0 = .ok (.iconst 0, 1) := by decide +kernel
theorem dX1_alone_1 : decode cX1_alone 1 = .ok (.istore_n 1, 1) := by decide +kernel
theorem dX1_alone_2 : decode cX1_alone 2 = .ok (.iconst 0, 1) := by decide +kernel
theorem dX1_alone_3 : decode cX1_alone 3 = .ok (.istore_n 2, 1) := by decide +kernel
theorem dX1_alone_4 : decode cX1_alone 4 = .ok (.iload_n 2, 1) := by decide +kernel
theorem dX1_alone_5 : decode cX1_alone 5 = .ok (.aload_n 0, 1) := by decide +kernel
theorem dX1_alone_6 : decode cX1_alone 6 = .ok (.getfield 10, 3) := by decide +kernel
theorem dX1_alone_9 : decode cX1_alone 9 = .ok (.getfield 203, 3) := by decide +kernel
theorem dX1_alone_12 : decode cX1_alone 12 = .ok (.if_icmp .ge 71, 3) := by decide +kernel
theorem dX1_alone_15 : decode cX1_alone 15 = .ok (.iconst 0, 1) := by decide +kernel
theorem dX1_alone_16 : decode cX1_alone 16 = .ok (.istore_n 3, 1) := by decide +kernel
theorem dX1_alone_17 : decode cX1_alone 17 = .ok (.iconst 0, 1) := by decide +kernel
theorem dX1_alone_18 : decode cX1_alone 18 = .ok (.istore 4, 2) := by decide +kernel
theorem dX1_alone_20 : decode cX1_alone 20 = .ok (.iload 4, 2) := by decide +kernel
theorem dX1_alone_22 : decode cX1_alone 22 = .ok (.aload_n 0, 1) := by decide +kernel
theorem dX1_alone_23 : decode cX1_alone 23 = .ok (.getfield 10, 3) := by decide +kernel
theorem dX1_alone_26 : decode cX1_alone 26 = .ok (.getfield 203, 3) := by decide +kernel
theorem dX1_alone_29 : decode cX1_alone 29 = .ok (.if_icmp .ge 27, 3) := by decide +kernel
theorem dX1_alone_32 : decode cX1_alone 32 = .ok (.iload 4, 2) := by decide +kernel
theorem dX1_alone_34 : decode cX1_alone 34 = .ok (.iload_n 2, 1) := by decide +kernel
theorem dX1_alone_35 : decode cX1_alone 35 = .ok (.if_icmp .eq 15, 3) := by decide +kernel
theorem dX1_alone_38 : decode cX1_alone 38 = .ok (.iload_n 3, 1) := by decide +kernel
theorem dX1_alone_39 : decode cX1_alone 39 = .ok (.aload_n 0, 1) := by decide +kernel
theorem dX1_alone_40 : decode cX1_alone 40 = .ok (.getfield 10, 3) := by decide +kernel
theorem dX1_alone_43 : decode cX1_alone 43 = .ok (.iload 4, 2) := by decide +kernel
theorem dX1_alone_45 : decode cX1_alone 45 = .ok (.invokevirtual 109, 3) := by decide +kernel
theorem dX1_alone_48 : decode cX1_alone 48 = .ok (.ior, 1) := by decide +kernel
theorem dX1_alone_49 : decode cX1_alone 49 = .ok (.istore_n 3, 1) := by decide +kernel
theorem dX1_alone_50 : decode cX1_alone 50 = .ok (.iinc 4 1, 3) := by decide +kernel
theorem dX1_alone_53 : decode cX1_alone 53 = .ok (.goto (-33), 3) := by decide +kernel
theorem dX1_alone_56 : decode cX1_alone 56 = .ok (.aload_n 0, 1) := by decide +kernel
theorem dX1_alone_57 : decode cX1_alone 57 = .ok (.getfield 10, 3) := by decide +kernel
theorem dX1_alone_60 : decode cX1_alone 60 = .ok (.iload_n 2, 1) := by decide +kernel
theorem dX1_alone_61 : decode cX1_alone 61 = .ok (.invokevirtual 109, 3) := by decide +kernel
theorem dX1_alone_64 : decode cX1_alone 64 = .ok (.iload_n 3, 1) := by decide +kernel
theorem dX1_alone_65 : decode cX1_alone 65 = .ok (.iconst (-1), 1) := by decide +kernel
theorem dX1_alone_66 : decode cX1_alone 66 = .ok (.ixor, 1) := by decide +kernel
theorem dX1_alone_67 : decode cX1_alone 67 = .ok (.iand, 1) := by decide +kernel
theorem dX1_alone_68 : decode cX1_alone 68 = .ok (.ifCond .eq 9, 3) := by decide +kernel
theorem dX1_alone_71 : decode cX1_alone 71 = .ok (.iload_n 1, 1) := by decide +kernel
theorem dX1_alone_72 : decode cX1_alone 72 = .ok (.iconst 1, 1) := by decide +kernel
theorem dX1_alone_73 : decode cX1_alone 73 = .ok (.iload_n 2, 1) := by decide +kernel
theorem dX1_alone_74 : decode cX1_alone 74 = .ok (.ishl, 1) := by decide +kernel
theorem dX1_alone_75 : decode cX1_alone 75 = .ok (.ior, 1) := by decide +kernel
theorem dX1_alone_76 : decode cX1_alone 76 = .ok (.istore_n 1, 1) := by decide +kernel
theorem dX1_alone_77 : decode cX1_alone 77 = .ok (.iinc 2 1, 3) := by decide +kernel
theorem dX1_alone_80 : decode cX1_alone 80 = .ok (.goto (-76), 3) := by decide +kernel
theorem dX1_alone_83 : decode cX1_alone 83 = .ok (.iload_n 1, 1) := by decide +kernel
theorem dX1_alone_84 : decode cX1_alone 84 = .ok (.ireturn, 1) := by decide +kernel
set_option maxRecDepth 20000 in
theorem ggX1_tell_X0_wordsOf : GoodIn wsX1_tell wsX0_wordsOf := goodIn_r _ [7, 8, 21, 22, 23, 24, 25, 26, 27, 28, 29, 30, 31, 32] (by decide +kernel) (by decide +kernel)
set_option maxRecDepth 20000 in
theorem gX1_tell_X0_wordsOf : GoodIn wsX1_tell (wsV RX1 109 RX0 yX0_wordsOf wsX0_wordsOf) := goodIn_app (goodIn_of _ (by decide +kernel)) ggX1_tell_X0_wordsOf
theorem dX1_tell_0 : decode cX1_tell 0 = .ok (.iconst 0, 1) := by decide +kernel
theorem dX1_tell_1 : decode cX1_tell 1 = .ok (.istore_n 1, 1) := by decide +kernel
theorem dX1_tell_2 : decode cX1_tell 2 = .ok (.iload_n 1, 1) := by decide +kernel
theorem dX1_tell_3 : decode cX1_tell 3 = .ok (.aload_n 0, 1) := by decide +kernel
theorem dX1_tell_4 : decode cX1_tell 4 = .ok (.getfield 10, 3) := by decide +kernel
theorem dX1_tell_7 : decode cX1_tell 7 = .ok (.getfield 203, 3) := by decide +kernel
theorem dX1_tell_10 : decode cX1_tell 10 = .ok (.if_icmp .ge 65, 3) := by decide +kernel
theorem dX1_tell_13 : decode cX1_tell 13 = .ok (.iconst 0, 1) := by decide +kernel
theorem dX1_tell_14 : decode cX1_tell 14 = .ok (.istore_n 2, 1) := by decide +kernel
theorem dX1_tell_15 : decode cX1_tell 15 = .ok (.iload_n 2, 1) := by decide +kernel
theorem dX1_tell_16 : decode cX1_tell 16 = .ok (.aload_n 0, 1) := by decide +kernel
theorem dX1_tell_17 : decode cX1_tell 17 = .ok (.getfield 10, 3) := by decide +kernel
theorem dX1_tell_20 : decode cX1_tell 20 = .ok (.getfield 203, 3) := by decide +kernel
theorem dX1_tell_23 : decode cX1_tell 23 = .ok (.if_icmp .ge 46, 3) := by decide +kernel
theorem dX1_tell_26 : decode cX1_tell 26 = .ok (.aload_n 0, 1) := by decide +kernel
theorem dX1_tell_27 : decode cX1_tell 27 = .ok (.getfield 10, 3) := by decide +kernel
theorem dX1_tell_30 : decode cX1_tell 30 = .ok (.iload_n 2, 1) := by decide +kernel
theorem dX1_tell_31 : decode cX1_tell 31 = .ok (.invokevirtual 109, 3) := by decide +kernel
theorem dX1_tell_34 : decode cX1_tell 34 = .ok (.istore_n 3, 1) := by decide +kernel
theorem dX1_tell_35 : decode cX1_tell 35 = .ok (.iload_n 3, 1) := by decide +kernel
theorem dX1_tell_36 : decode cX1_tell 36 = .ok (.bipush 63, 2) := by decide +kernel
theorem dX1_tell_38 : decode cX1_tell 38 = .ok (.if_icmp .eq 25, 3) := by decide +kernel
theorem dX1_tell_41 : decode cX1_tell 41 = .ok (.iload_n 3, 1) := by decide +kernel
theorem dX1_tell_42 : decode cX1_tell 42 = .ok (.aload_n 0, 1) := by decide +kernel
theorem dX1_tell_43 : decode cX1_tell 43 = .ok (.getfield 10, 3) := by decide +kernel
theorem dX1_tell_46 : decode cX1_tell 46 = .ok (.iload_n 1, 1) := by decide +kernel
theorem dX1_tell_47 : decode cX1_tell 47 = .ok (.invokevirtual 109, 3) := by decide +kernel
theorem dX1_tell_50 : decode cX1_tell 50 = .ok (.ior, 1) := by decide +kernel
theorem dX1_tell_51 : decode cX1_tell 51 = .ok (.bipush 63, 2) := by decide +kernel
theorem dX1_tell_53 : decode cX1_tell 53 = .ok (.if_icmp .ne 10, 3) := by decide +kernel
theorem dX1_tell_56 : decode cX1_tell 56 = .ok (.bipush 10, 2) := by decide +kernel
theorem dX1_tell_58 : decode cX1_tell 58 = .ok (.iload_n 1, 1) := by decide +kernel
theorem dX1_tell_59 : decode cX1_tell 59 = .ok (.imul, 1) := by decide +kernel
theorem dX1_tell_60 : decode cX1_tell 60 = .ok (.iload_n 2, 1) := by decide +kernel
theorem dX1_tell_61 : decode cX1_tell 61 = .ok (.iadd, 1) := by decide +kernel
theorem dX1_tell_62 : decode cX1_tell 62 = .ok (.ireturn, 1) := by decide +kernel
theorem dX1_tell_63 : decode cX1_tell 63 = .ok (.iinc 2 1, 3) := by decide +kernel
theorem dX1_tell_66 : decode cX1_tell 66 = .ok (.goto (-51), 3) := by decide +kernel
theorem dX1_tell_69 : decode cX1_tell 69 = .ok (.iinc 1 1, 3) := by decide +kernel
theorem dX1_tell_72 : decode cX1_tell 72 = .ok (.goto (-70), 3) := by decide +kernel
theorem dX1_tell_75 : decode cX1_tell 75 = .ok (.bipush (-9), 2) := by decide +kernel
theorem dX1_tell_77 : decode cX1_tell 77 = .ok (.ireturn, 1) := by decide +kernel
set_option maxRecDepth 20000 in
theorem ggX1_two_X0_hasReader : GoodIn wsX1_two wsX0_hasReader := goodIn_r _ [8, 9, 123, 124, 125, 126, 127, 128, 129, 130, 131, 132, 133, 134] (by decide +kernel) (by decide +kernel)
set_option maxRecDepth 20000 in
theorem gX1_two_X0_hasReader : GoodIn wsX1_two (wsV RX1 100 RX0 yX0_hasReader wsX0_hasReader) := goodIn_app (goodIn_of _ (by decide +kernel)) ggX1_two_X0_hasReader
set_option maxRecDepth 20000 in
theorem ggX1_two_X1_refuse : GoodIn wsX1_two wsX1_refuse := goodIn_r _ [14, 15, 111, 112, 113, 114, 115, 116, 117, 118, 119, 120, 121, 122] (by decide +kernel) (by decide +kernel)
set_option maxRecDepth 20000 in
theorem gX1_two_X1_refuse : GoodIn wsX1_two (wsV RX1 52 RX1 yX1_refuse wsX1_refuse) := goodIn_app (goodIn_of _ (by decide +kernel)) ggX1_two_X1_refuse
set_option maxRecDepth 20000 in
theorem ggX1_two_X1_outside : GoodIn wsX1_two wsX1_outside := goodIn_r _ [18] (by decide +kernel) (by decide +kernel)
set_option maxRecDepth 20000 in
theorem gX1_two_X1_outside : GoodIn wsX1_two (va_wsS RX1 140 yX1_outside wsX1_outside) := goodIn_app (goodIn_of _ (by decide +kernel)) ggX1_two_X1_outside
set_option maxRecDepth 20000 in
theorem ggX1_two_X1_noteWhatPairGets : GoodIn wsX1_two wsX1_noteWhatPairGets := goodIn_r _ [22, 23, 1, 2, 3, 24, 25, 26, 7, 27, 28, 29, 30, 31, 32, 33, 34, 35, 36, 9, 37, 38, 39, 40, 41, 42, 43, 44, 45, 46, 47, 48, 49, 50, 51, 52, 53, 54, 55, 56, 57, 58, 59, 60, 61, 62, 63, 64, 65, 66, 67, 68, 69, 70, 71, 72, 73, 74, 75, 76, 77, 78, 79, 80, 81, 82, 83, 84, 85, 86, 87, 88, 89, 90, 91, 92, 93, 13, 94, 95, 96, 97, 98, 99, 100, 101, 102, 103, 104, 105, 106, 107, 108, 109, 110, 111, 112, 113, 114, 115, 116, 117, 118, 119, 120, 121, 122, 123, 124, 125, 126, 127, 128, 129, 130, 131, 132, 133, 134] (by decide +kernel) (by decide +kernel)
set_option maxRecDepth 20000 in
theorem gX1_two_X1_noteWhatPairGets : GoodIn wsX1_two (wsV RX1 211 RX1 yX1_noteWhatPairGets wsX1_noteWhatPairGets) := goodIn_app (goodIn_of _ (by decide +kernel)) ggX1_two_X1_noteWhatPairGets
theorem dX1_two_0 : decode cX1_two 0 = .ok (.aload_n 0, 1) := by decide +kernel
theorem dX1_two_1 : decode cX1_two 1 = .ok (.getfield 10, 3) := by decide +kernel
theorem dX1_two_4 : decode cX1_two 4 = .ok (.iload_n 1, 1) := by decide +kernel
theorem dX1_two_5 : decode cX1_two 5 = .ok (.invokevirtual 100, 3) := by decide +kernel
theorem dX1_two_8 : decode cX1_two 8 = .ok (.ifCond .eq 19, 3) := by decide +kernel
theorem dX1_two_11 : decode cX1_two 11 = .ok (.aload_n 0, 1) := by decide +kernel
theorem dX1_two_12 : decode cX1_two 12 = .ok (.getfield 10, 3) := by decide +kernel
theorem dX1_two_15 : decode cX1_two 15 = .ok (.iload_n 2, 1) := by decide +kernel
theorem dX1_two_16 : decode cX1_two 16 = .ok (.invokevirtual 100, 3) := by decide +kernel
theorem dX1_two_19 : decode cX1_two 19 = .ok (.ifCond .eq 8, 3) := by decide +kernel
theorem dX1_two_22 : decode cX1_two 22 = .ok (.iload_n 1, 1) := by decide +kernel
theorem dX1_two_23 : decode cX1_two 23 = .ok (.iload_n 2, 1) := by decide +kernel
theorem dX1_two_24 : decode cX1_two 24 = .ok (.if_icmp .ne 9, 3) := by decide +kernel
theorem dX1_two_27 : decode cX1_two 27 = .ok (.aload_n 0, 1) := by decide +kernel
theorem dX1_two_28 : decode cX1_two 28 = .ok (.iconst (-1), 1) := by decide +kernel
theorem dX1_two_29 : decode cX1_two 29 = .ok (.invokevirtual 52, 3) := by decide +kernel
theorem dX1_two_32 : decode cX1_two 32 = .ok (.ireturn, 1) := by decide +kernel
theorem dX1_two_33 : decode cX1_two 33 = .ok (.iload_n 3, 1) := by decide +kernel
theorem dX1_two_34 : decode cX1_two 34 = .ok (.iconst 0, 1) := by decide +kernel
theorem dX1_two_35 : decode cX1_two 35 = .ok (.bipush 30, 2) := by decide +kernel
theorem dX1_two_37 : decode cX1_two 37 = .ok (.invokestatic 140, 3) := by decide +kernel
theorem dX1_two_40 : decode cX1_two 40 = .ok (.istore 4, 2) := by decide +kernel
theorem dX1_two_42 : decode cX1_two 42 = .ok (.iload 4, 2) := by decide +kernel
theorem dX1_two_44 : decode cX1_two 44 = .ok (.ifCond .eq 10, 3) := by decide +kernel
theorem dX1_two_47 : decode cX1_two 47 = .ok (.aload_n 0, 1) := by decide +kernel
theorem dX1_two_48 : decode cX1_two 48 = .ok (.iload 4, 2) := by decide +kernel
theorem dX1_two_50 : decode cX1_two 50 = .ok (.invokevirtual 52, 3) := by decide +kernel
theorem dX1_two_53 : decode cX1_two 53 = .ok (.ireturn, 1) := by decide +kernel
theorem dX1_two_54 : decode cX1_two 54 = .ok (.iconst 0, 1) := by decide +kernel
theorem dX1_two_55 : decode cX1_two 55 = .ok (.istore 5, 2) := by decide +kernel
theorem dX1_two_57 : decode cX1_two 57 = .ok (.iload 5, 2) := by decide +kernel
theorem dX1_two_59 : decode cX1_two 59 = .ok (.iconst 4, 1) := by decide +kernel
theorem dX1_two_60 : decode cX1_two 60 = .ok (.if_icmp .ge 18, 3) := by decide +kernel
theorem dX1_two_63 : decode cX1_two 63 = .ok (.aload_n 0, 1) := by decide +kernel
theorem dX1_two_64 : decode cX1_two 64 = .ok (.iload_n 1, 1) := by decide +kernel
theorem dX1_two_65 : decode cX1_two 65 = .ok (.iload_n 2, 1) := by decide +kernel
theorem dX1_two_66 : decode cX1_two 66 = .ok (.iload_n 3, 1) := by decide +kernel
theorem dX1_two_67 : decode cX1_two 67 = .ok (.iload 5, 2) := by decide +kernel
theorem dX1_two_69 : decode cX1_two 69 = .ok (.invokevirtual 211, 3) := by decide +kernel
theorem dX1_two_72 : decode cX1_two 72 = .ok (.iinc 5 1, 3) := by decide +kernel
theorem dX1_two_75 : decode cX1_two 75 = .ok (.goto (-18), 3) := by decide +kernel
theorem dX1_two_78 : decode cX1_two 78 = .ok (.iconst 0, 1) := by decide +kernel
theorem dX1_two_79 : decode cX1_two 79 = .ok (.istore 5, 2) := by decide +kernel
theorem dX1_two_81 : decode cX1_two 81 = .ok (.iload 5, 2) := by decide +kernel
theorem dX1_two_83 : decode cX1_two 83 = .ok (.iconst 4, 1) := by decide +kernel
theorem dX1_two_84 : decode cX1_two 84 = .ok (.if_icmp .ge 60, 3) := by decide +kernel
theorem dX1_two_87 : decode cX1_two 87 = .ok (.aload_n 0, 1) := by decide +kernel
theorem dX1_two_88 : decode cX1_two 88 = .ok (.getfield 46, 3) := by decide +kernel
theorem dX1_two_91 : decode cX1_two 91 = .ok (.iload 5, 2) := by decide +kernel
theorem dX1_two_93 : decode cX1_two 93 = .ok (.iaload, 1) := by decide +kernel
theorem dX1_two_94 : decode cX1_two 94 = .ok (.aload_n 0, 1) := by decide +kernel
theorem dX1_two_95 : decode cX1_two 95 = .ok (.getfield 46, 3) := by decide +kernel
theorem dX1_two_98 : decode cX1_two 98 = .ok (.iload 5, 2) := by decide +kernel
theorem dX1_two_100 : decode cX1_two 100 = .ok (.iconst 2, 1) := by decide +kernel
theorem dX1_two_101 : decode cX1_two 101 = .ok (.ixor, 1) := by decide +kernel
theorem dX1_two_102 : decode cX1_two 102 = .ok (.iaload, 1) := by decide +kernel
theorem dX1_two_103 : decode cX1_two 103 = .ok (.if_icmp .lt 35, 3) := by decide +kernel
theorem dX1_two_106 : decode cX1_two 106 = .ok (.aload_n 0, 1) := by decide +kernel
theorem dX1_two_107 : decode cX1_two 107 = .ok (.getfield 49, 3) := by decide +kernel
theorem dX1_two_110 : decode cX1_two 110 = .ok (.iload 5, 2) := by decide +kernel
theorem dX1_two_112 : decode cX1_two 112 = .ok (.iaload, 1) := by decide +kernel
theorem dX1_two_113 : decode cX1_two 113 = .ok (.aload_n 0, 1) := by decide +kernel
theorem dX1_two_114 : decode cX1_two 114 = .ok (.getfield 49, 3) := by decide +kernel
theorem dX1_two_117 : decode cX1_two 117 = .ok (.iload 5, 2) := by decide +kernel
theorem dX1_two_119 : decode cX1_two 119 = .ok (.iconst 1, 1) := by decide +kernel
theorem dX1_two_120 : decode cX1_two 120 = .ok (.ixor, 1) := by decide +kernel
theorem dX1_two_121 : decode cX1_two 121 = .ok (.iaload, 1) := by decide +kernel
theorem dX1_two_122 : decode cX1_two 122 = .ok (.if_icmp .lt 16, 3) := by decide +kernel
theorem dX1_two_125 : decode cX1_two 125 = .ok (.bipush 10, 2) := by decide +kernel
theorem dX1_two_127 : decode cX1_two 127 = .ok (.iload 5, 2) := by decide +kernel
theorem dX1_two_129 : decode cX1_two 129 = .ok (.iconst 1, 1) := by decide +kernel
theorem dX1_two_130 : decode cX1_two 130 = .ok (.ishr, 1) := by decide +kernel
theorem dX1_two_131 : decode cX1_two 131 = .ok (.imul, 1) := by decide +kernel
theorem dX1_two_132 : decode cX1_two 132 = .ok (.iload 5, 2) := by decide +kernel
theorem dX1_two_134 : decode cX1_two 134 = .ok (.iconst 1, 1) := by decide +kernel
theorem dX1_two_135 : decode cX1_two 135 = .ok (.iand, 1) := by decide +kernel
theorem dX1_two_136 : decode cX1_two 136 = .ok (.iadd, 1) := by decide +kernel
theorem dX1_two_137 : decode cX1_two 137 = .ok (.ireturn, 1) := by decide +kernel
theorem dX1_two_138 : decode cX1_two 138 = .ok (.iinc 5 1, 3) := by decide +kernel
theorem dX1_two_141 : decode cX1_two 141 = .ok (.goto (-60), 3) := by decide +kernel
theorem dX1_two_144 : decode cX1_two 144 = .ok (.bipush (-9), 2) := by decide +kernel
theorem dX1_two_146 : decode cX1_two 146 = .ok (.ireturn, 1) := by decide +kernel
set_option maxRecDepth 20000 in
theorem ggX1_rain_X0_hasReader : GoodIn wsX1_rain wsX0_hasReader := goodIn_r _ [6, 7, 130, 131, 132, 133, 134, 135, 136, 137, 138, 139, 140, 141] (by decide +kernel) (by decide +kernel)
set_option maxRecDepth 20000 in
theorem gX1_rain_X0_hasReader : GoodIn wsX1_rain (wsV RX1 100 RX0 yX0_hasReader wsX0_hasReader) := goodIn_app (goodIn_of _ (by decide +kernel)) ggX1_rain_X0_hasReader
set_option maxRecDepth 20000 in
theorem ggX1_rain_X1_refuseLong : GoodIn wsX1_rain wsX1_refuseLong := goodIn_r _ [12, 13, 14, 15, 16, 11, 17, 18, 118, 119, 120, 121, 122, 123, 124, 125, 126, 127, 128, 129] (by decide +kernel) (by decide +kernel)
set_option maxRecDepth 20000 in
theorem gX1_rain_X1_refuseLong : GoodIn wsX1_rain (wsV RX1 215 RX1 yX1_refuseLong wsX1_refuseLong) := goodIn_app (goodIn_of _ (by decide +kernel)) ggX1_rain_X1_refuseLong
set_option maxRecDepth 20000 in
theorem ggX1_rain_X1_isOneOfTwo : GoodIn wsX1_rain wsX1_isOneOfTwo := goodIn_r _ [21] (by decide +kernel) (by decide +kernel)
set_option maxRecDepth 20000 in
theorem gX1_rain_X1_isOneOfTwo : GoodIn wsX1_rain (va_wsS RX1 156 yX1_isOneOfTwo wsX1_isOneOfTwo) := goodIn_app (goodIn_of _ (by decide +kernel)) ggX1_rain_X1_isOneOfTwo
set_option maxRecDepth 20000 in
theorem ggX1_rain_X1_isWholeAfter : GoodIn wsX1_rain wsX1_isWholeAfter := goodIn_r _ [25, 26, 1, 27, 28, 29, 5, 30, 31, 32, 33, 34, 35, 36, 37, 38, 39, 7, 40, 41, 42, 43, 44, 45, 46, 47, 48, 49, 50, 51, 52, 53, 54, 55, 56, 57, 58, 59, 60, 61, 62, 63, 64, 65, 66, 67, 68, 69, 70, 71, 72, 73, 74, 75, 76, 77, 78, 79, 80, 81, 82, 83, 84, 85, 86, 87, 88, 89, 90, 91, 92, 93, 94, 95, 96, 97, 98, 99, 100, 101, 118, 119, 120, 121, 122, 123, 124, 125, 126, 127, 128, 129, 130, 131, 132, 133, 134, 135, 136, 137, 138, 139, 140, 141] (by decide +kernel) (by decide +kernel)
set_option maxRecDepth 20000 in
theorem gX1_rain_X1_isWholeAfter : GoodIn wsX1_rain (wsV RX1 219 RX1 yX1_isWholeAfter wsX1_isWholeAfter) := goodIn_app (goodIn_of _ (by decide +kernel)) ggX1_rain_X1_isWholeAfter
set_option maxRecDepth 20000 in
theorem ggX1_rain_J6_bitCount_0f7a4 : GoodIn wsX1_rain wsJ6_bitCount_0f7a4 := goodIn_r _ [105, 106, 107, 108] (by decide +kernel) (by decide +kernel)
set_option maxRecDepth 20000 in
theorem gX1_rain_J6_bitCount_0f7a4 : GoodIn wsX1_rain (va_wsS RX1 135 yJ6_bitCount_0f7a4 wsJ6_bitCount_0f7a4) := goodIn_app (goodIn_of _ (by decide +kernel)) ggX1_rain_J6_bitCount_0f7a4
set_option maxRecDepth 20000 in
theorem ggX1_rain_X1_power : GoodIn wsX1_rain wsX1_power := goodIn_r _ [111] (by decide +kernel) (by decide +kernel)
set_option maxRecDepth 20000 in
theorem gX1_rain_X1_power : GoodIn wsX1_rain (va_wsS RX1 223 yX1_power wsX1_power) := goodIn_app (goodIn_of _ (by decide +kernel)) ggX1_rain_X1_power
set_option maxRecDepth 20000 in
theorem ggX1_rain_X1_partOf : GoodIn wsX1_rain wsX1_partOf := goodIn_r _ [114, 115, 116, 11, 117] (by decide +kernel) (by decide +kernel)
set_option maxRecDepth 20000 in
theorem gX1_rain_X1_partOf : GoodIn wsX1_rain (va_wsS RX1 227 yX1_partOf wsX1_partOf) := goodIn_app (goodIn_of _ (by decide +kernel)) ggX1_rain_X1_partOf
theorem dX1_rain_0 : decode cX1_rain 0 = .ok (.aload_n 0, 1) := by decide +kernel
theorem dX1_rain_1 : decode cX1_rain 1 = .ok (.getfield 10, 3) := by decide +kernel
theorem dX1_rain_4 : decode cX1_rain 4 = .ok (.iload_n 1, 1) := by decide +kernel
theorem dX1_rain_5 : decode cX1_rain 5 = .ok (.invokevirtual 100, 3) := by decide +kernel
theorem dX1_rain_8 : decode cX1_rain 8 = .ok (.ifCond .ne 9, 3) := by decide +kernel
theorem dX1_rain_11 : decode cX1_rain 11 = .ok (.aload_n 0, 1) := by decide +kernel
theorem dX1_rain_12 : decode cX1_rain 12 = .ok (.iconst (-1), 1) := by decide +kernel
theorem dX1_rain_13 : decode cX1_rain 13 = .ok (.invokevirtual 215, 3) := by decide +kernel
theorem dX1_rain_16 : decode cX1_rain 16 = .ok (.lreturn, 1) := by decide +kernel
theorem dX1_rain_17 : decode cX1_rain 17 = .ok (.iload_n 2, 1) := by decide +kernel
theorem dX1_rain_18 : decode cX1_rain 18 = .ok (.ifCond .lt 8, 3) := by decide +kernel
theorem dX1_rain_21 : decode cX1_rain 21 = .ok (.iload_n 3, 1) := by decide +kernel
theorem dX1_rain_22 : decode cX1_rain 22 = .ok (.iconst 2, 1) := by decide +kernel
theorem dX1_rain_23 : decode cX1_rain 23 = .ok (.if_icmp .ge 10, 3) := by decide +kernel
theorem dX1_rain_26 : decode cX1_rain 26 = .ok (.aload_n 0, 1) := by decide +kernel
theorem dX1_rain_27 : decode cX1_rain 27 = .ok (.bipush (-4), 2) := by decide +kernel
theorem dX1_rain_29 : decode cX1_rain 29 = .ok (.invokevirtual 215, 3) := by decide +kernel
theorem dX1_rain_32 : decode cX1_rain 32 = .ok (.lreturn, 1) := by decide +kernel
theorem dX1_rain_33 : decode cX1_rain 33 = .ok (.iload_n 2, 1) := by decide +kernel
theorem dX1_rain_34 : decode cX1_rain 34 = .ok (.bipush 7, 2) := by decide +kernel
theorem dX1_rain_36 : decode cX1_rain 36 = .ok (.if_icmp .gt 9, 3) := by decide +kernel
theorem dX1_rain_39 : decode cX1_rain 39 = .ok (.iload_n 3, 1) := by decide +kernel
theorem dX1_rain_40 : decode cX1_rain 40 = .ok (.bipush 20, 2) := by decide +kernel
theorem dX1_rain_42 : decode cX1_rain 42 = .ok (.if_icmp .le 10, 3) := by decide +kernel
theorem dX1_rain_45 : decode cX1_rain 45 = .ok (.aload_n 0, 1) := by decide +kernel
theorem dX1_rain_46 : decode cX1_rain 46 = .ok (.bipush (-6), 2) := by decide +kernel
theorem dX1_rain_48 : decode cX1_rain 48 = .ok (.invokevirtual 215, 3) := by decide +kernel
theorem dX1_rain_51 : decode cX1_rain 51 = .ok (.lreturn, 1) := by decide +kernel
theorem dX1_rain_52 : decode cX1_rain 52 = .ok (.iload 4, 2) := by decide +kernel
theorem dX1_rain_54 : decode cX1_rain 54 = .ok (.invokestatic 156, 3) := by decide +kernel
theorem dX1_rain_57 : decode cX1_rain 57 = .ok (.ifCond .ne 10, 3) := by decide +kernel
theorem dX1_rain_60 : decode cX1_rain 60 = .ok (.aload_n 0, 1) := by decide +kernel
theorem dX1_rain_61 : decode cX1_rain 61 = .ok (.bipush (-2), 2) := by decide +kernel
theorem dX1_rain_63 : decode cX1_rain 63 = .ok (.invokevirtual 215, 3) := by decide +kernel
theorem dX1_rain_66 : decode cX1_rain 66 = .ok (.lreturn, 1) := by decide +kernel
theorem dX1_rain_67 : decode cX1_rain 67 = .ok (.lconst 0, 1) := by decide +kernel
theorem dX1_rain_68 : decode cX1_rain 68 = .ok (.lstore 5, 2) := by decide +kernel
theorem dX1_rain_70 : decode cX1_rain 70 = .ok (.iconst 0, 1) := by decide +kernel
theorem dX1_rain_71 : decode cX1_rain 71 = .ok (.istore 7, 2) := by decide +kernel
theorem dX1_rain_73 : decode cX1_rain 73 = .ok (.iload 7, 2) := by decide +kernel
theorem dX1_rain_75 : decode cX1_rain 75 = .ok (.iconst 1, 1) := by decide +kernel
theorem dX1_rain_76 : decode cX1_rain 76 = .ok (.iload_n 2, 1) := by decide +kernel
theorem dX1_rain_77 : decode cX1_rain 77 = .ok (.ishl, 1) := by decide +kernel
theorem dX1_rain_78 : decode cX1_rain 78 = .ok (.if_icmp .ge 36, 3) := by decide +kernel
theorem dX1_rain_81 : decode cX1_rain 81 = .ok (.aload_n 0, 1) := by decide +kernel
theorem dX1_rain_82 : decode cX1_rain 82 = .ok (.iload_n 1, 1) := by decide +kernel
theorem dX1_rain_83 : decode cX1_rain 83 = .ok (.iload_n 2, 1) := by decide +kernel
theorem dX1_rain_84 : decode cX1_rain 84 = .ok (.iload 7, 2) := by decide +kernel
theorem dX1_rain_86 : decode cX1_rain 86 = .ok (.invokevirtual 219, 3) := by decide +kernel
theorem dX1_rain_89 : decode cX1_rain 89 = .ok (.ifCond .eq 19, 3) := by decide +kernel
theorem dX1_rain_92 : decode cX1_rain 92 = .ok (.lload 5, 2) := by decide +kernel
theorem dX1_rain_94 : decode cX1_rain 94 = .ok (.iload_n 3, 1) := by decide +kernel
theorem dX1_rain_95 : decode cX1_rain 95 = .ok (.iconst 1, 1) := by decide +kernel
theorem dX1_rain_96 : decode cX1_rain 96 = .ok (.isub, 1) := by decide +kernel
theorem dX1_rain_97 : decode cX1_rain 97 = .ok (.iload 7, 2) := by decide +kernel
theorem dX1_rain_99 : decode cX1_rain 99 = .ok (.invokestatic 135, 3) := by decide +kernel
theorem dX1_rain_102 : decode cX1_rain 102 = .ok (.invokestatic 223, 3) := by decide +kernel
theorem dX1_rain_105 : decode cX1_rain 105 = .ok (.ladd, 1) := by decide +kernel
theorem dX1_rain_106 : decode cX1_rain 106 = .ok (.lstore 5, 2) := by decide +kernel
theorem dX1_rain_108 : decode cX1_rain 108 = .ok (.iinc 7 1, 3) := by decide +kernel
theorem dX1_rain_111 : decode cX1_rain 111 = .ok (.goto (-38), 3) := by decide +kernel
theorem dX1_rain_114 : decode cX1_rain 114 = .ok (.lload 5, 2) := by decide +kernel
theorem dX1_rain_116 : decode cX1_rain 116 = .ok (.iload_n 3, 1) := by decide +kernel
theorem dX1_rain_117 : decode cX1_rain 117 = .ok (.iload_n 2, 1) := by decide +kernel
theorem dX1_rain_118 : decode cX1_rain 118 = .ok (.invokestatic 223, 3) := by decide +kernel
theorem dX1_rain_121 : decode cX1_rain 121 = .ok (.iload 4, 2) := by decide +kernel
theorem dX1_rain_123 : decode cX1_rain 123 = .ok (.invokestatic 227, 3) := by decide +kernel
theorem dX1_rain_126 : decode cX1_rain 126 = .ok (.lreturn, 1) := by decide +kernel
set_option maxRecDepth 20000 in
theorem ggX1_mean_X1_isOneOfTwo : GoodIn wsX1_mean wsX1_isOneOfTwo := goodIn_r _ [10] (by decide +kernel) (by decide +kernel)
set_option maxRecDepth 20000 in
theorem gX1_mean_X1_isOneOfTwo : GoodIn wsX1_mean (va_wsS RX1 156 yX1_isOneOfTwo wsX1_isOneOfTwo) := goodIn_app (goodIn_of _ (by decide +kernel)) ggX1_mean_X1_isOneOfTwo
set_option maxRecDepth 20000 in
theorem ggX1_mean_X1_refuseLong : GoodIn wsX1_mean wsX1_refuseLong := goodIn_r _ [14, 15, 16, 17, 18, 9, 19, 20, 33, 34, 35, 36, 37, 38, 39, 40, 41, 42, 43, 44] (by decide +kernel) (by decide +kernel)
set_option maxRecDepth 20000 in
theorem gX1_mean_X1_refuseLong : GoodIn wsX1_mean (wsV RX1 215 RX1 yX1_refuseLong wsX1_refuseLong) := goodIn_app (goodIn_of _ (by decide +kernel)) ggX1_mean_X1_refuseLong
set_option maxRecDepth 20000 in
theorem ggX1_mean_X0_costOf : GoodIn wsX1_mean wsX0_costOf := goodIn_r _ [25, 26, 45, 46, 47, 48, 49, 50, 51, 52, 53, 54, 55, 56] (by decide +kernel) (by decide +kernel)
set_option maxRecDepth 20000 in
theorem gX1_mean_X0_costOf : GoodIn wsX1_mean (wsV RX1 85 RX0 yX0_costOf wsX0_costOf) := goodIn_app (goodIn_of _ (by decide +kernel)) ggX1_mean_X0_costOf
set_option maxRecDepth 20000 in
theorem ggX1_mean_X1_partOf : GoodIn wsX1_mean wsX1_partOf := goodIn_r _ [29, 30, 31, 9, 32] (by decide +kernel) (by decide +kernel)
set_option maxRecDepth 20000 in
theorem gX1_mean_X1_partOf : GoodIn wsX1_mean (va_wsS RX1 227 yX1_partOf wsX1_partOf) := goodIn_app (goodIn_of _ (by decide +kernel)) ggX1_mean_X1_partOf
theorem dX1_mean_0 : decode cX1_mean 0 = .ok (.iload_n 1, 1) := by decide +kernel
theorem dX1_mean_1 : decode cX1_mean 1 = .ok (.invokestatic 156, 3) := by decide +kernel
theorem dX1_mean_4 : decode cX1_mean 4 = .ok (.ifCond .ne 10, 3) := by decide +kernel
theorem dX1_mean_7 : decode cX1_mean 7 = .ok (.aload_n 0, 1) := by decide +kernel
theorem dX1_mean_8 : decode cX1_mean 8 = .ok (.bipush (-2), 2) := by decide +kernel
theorem dX1_mean_10 : decode cX1_mean 10 = .ok (.invokevirtual 215, 3) := by decide +kernel
theorem dX1_mean_13 : decode cX1_mean 13 = .ok (.lreturn, 1) := by decide +kernel
theorem dX1_mean_14 : decode cX1_mean 14 = .ok (.lconst 0, 1) := by decide +kernel
theorem dX1_mean_15 : decode cX1_mean 15 = .ok (.lstore_n 2, 1) := by decide +kernel
theorem dX1_mean_16 : decode cX1_mean 16 = .ok (.iconst 0, 1) := by decide +kernel
theorem dX1_mean_17 : decode cX1_mean 17 = .ok (.istore 4, 2) := by decide +kernel
theorem dX1_mean_19 : decode cX1_mean 19 = .ok (.iload 4, 2) := by decide +kernel
theorem dX1_mean_21 : decode cX1_mean 21 = .ok (.aload_n 0, 1) := by decide +kernel
theorem dX1_mean_22 : decode cX1_mean 22 = .ok (.getfield 10, 3) := by decide +kernel
theorem dX1_mean_25 : decode cX1_mean 25 = .ok (.getfield 129, 3) := by decide +kernel
theorem dX1_mean_28 : decode cX1_mean 28 = .ok (.if_icmp .ge 22, 3) := by decide +kernel
theorem dX1_mean_31 : decode cX1_mean 31 = .ok (.lload_n 2, 1) := by decide +kernel
theorem dX1_mean_32 : decode cX1_mean 32 = .ok (.aload_n 0, 1) := by decide +kernel
theorem dX1_mean_33 : decode cX1_mean 33 = .ok (.getfield 10, 3) := by decide +kernel
theorem dX1_mean_36 : decode cX1_mean 36 = .ok (.iload 4, 2) := by decide +kernel
theorem dX1_mean_38 : decode cX1_mean 38 = .ok (.invokevirtual 85, 3) := by decide +kernel
theorem dX1_mean_41 : decode cX1_mean 41 = .ok (.i2l, 1) := by decide +kernel
theorem dX1_mean_42 : decode cX1_mean 42 = .ok (.ladd, 1) := by decide +kernel
theorem dX1_mean_43 : decode cX1_mean 43 = .ok (.lstore_n 2, 1) := by decide +kernel
theorem dX1_mean_44 : decode cX1_mean 44 = .ok (.iinc 4 1, 3) := by decide +kernel
theorem dX1_mean_47 : decode cX1_mean 47 = .ok (.goto (-28), 3) := by decide +kernel
theorem dX1_mean_50 : decode cX1_mean 50 = .ok (.lload_n 2, 1) := by decide +kernel
theorem dX1_mean_51 : decode cX1_mean 51 = .ok (.aload_n 0, 1) := by decide +kernel
theorem dX1_mean_52 : decode cX1_mean 52 = .ok (.getfield 10, 3) := by decide +kernel
theorem dX1_mean_55 : decode cX1_mean 55 = .ok (.getfield 129, 3) := by decide +kernel
theorem dX1_mean_58 : decode cX1_mean 58 = .ok (.iconst 1, 1) := by decide +kernel
theorem dX1_mean_59 : decode cX1_mean 59 = .ok (.invokestatic 231, 3) := by decide +kernel
theorem dX1_mean_62 : decode cX1_mean 62 = .ok (.i2l, 1) := by decide +kernel
theorem dX1_mean_63 : decode cX1_mean 63 = .ok (.iload_n 1, 1) := by decide +kernel
theorem dX1_mean_64 : decode cX1_mean 64 = .ok (.invokestatic 227, 3) := by decide +kernel
theorem dX1_mean_67 : decode cX1_mean 67 = .ok (.lreturn, 1) := by decide +kernel
set_option maxRecDepth 20000 in
theorem ggX1_whatSaid_X0_hasRocket : GoodIn wsX1_whatSaid wsX0_hasRocket := goodIn_r _ [9, 10, 93, 94, 95, 96, 97, 98, 99, 100, 101, 102, 103, 104] (by decide +kernel) (by decide +kernel)
set_option maxRecDepth 20000 in
theorem gX1_whatSaid_X0_hasRocket : GoodIn wsX1_whatSaid (wsV RX1 70 RX0 yX0_hasRocket wsX0_hasRocket) := goodIn_app (goodIn_of _ (by decide +kernel)) ggX1_whatSaid_X0_hasRocket
set_option maxRecDepth 20000 in
theorem ggX1_whatSaid_X1_refuse : GoodIn wsX1_whatSaid wsX1_refuse := goodIn_r _ [15, 16, 81, 82, 83, 84, 85, 86, 87, 88, 89, 90, 91, 92] (by decide +kernel) (by decide +kernel)
set_option maxRecDepth 20000 in
theorem gX1_whatSaid_X1_refuse : GoodIn wsX1_whatSaid (wsV RX1 52 RX1 yX1_refuse wsX1_refuse) := goodIn_app (goodIn_of _ (by decide +kernel)) ggX1_whatSaid_X1_refuse
set_option maxRecDepth 20000 in
theorem ggX1_whatSaid_X1_isOneOfTwo : GoodIn wsX1_whatSaid wsX1_isOneOfTwo := goodIn_r _ [19] (by decide +kernel) (by decide +kernel)
set_option maxRecDepth 20000 in
theorem gX1_whatSaid_X1_isOneOfTwo : GoodIn wsX1_whatSaid (va_wsS RX1 156 yX1_isOneOfTwo wsX1_isOneOfTwo) := goodIn_app (goodIn_of _ (by decide +kernel)) ggX1_whatSaid_X1_isOneOfTwo
set_option maxRecDepth 20000 in
theorem ggX1_whatSaid_X0_copyFrom : GoodIn wsX1_whatSaid wsX0_copyFrom := goodIn_r _ [23, 10, 24, 25, 26, 27, 28, 29, 30, 31, 32, 33, 34, 35, 36, 37, 38, 93, 94, 95, 96, 97, 98, 99, 100, 101, 102, 103, 104] (by decide +kernel) (by decide +kernel)
set_option maxRecDepth 20000 in
theorem gX1_whatSaid_X0_copyFrom : GoodIn wsX1_whatSaid (wsV RX1 59 RX0 yX0_copyFrom wsX0_copyFrom) := goodIn_app (goodIn_of _ (by decide +kernel)) ggX1_whatSaid_X0_copyFrom
set_option maxRecDepth 20000 in
theorem ggX1_whatSaid_X0_sendUp : GoodIn wsX1_whatSaid wsX0_sendUp := goodIn_r _ [42, 36, 32, 30, 34, 35, 43, 44, 45, 8, 46, 24, 47, 48, 49, 50, 31, 51, 52, 53, 54, 33, 55, 56, 57, 58, 37, 59, 60, 61, 62, 29, 93, 94, 95, 96, 97, 98, 99, 100, 101, 102, 103, 104] (by decide +kernel) (by decide +kernel)
set_option maxRecDepth 20000 in
theorem gX1_whatSaid_X0_sendUp : GoodIn wsX1_whatSaid (wsV RX1 118 RX0 yX0_sendUp wsX0_sendUp) := goodIn_app (goodIn_of _ (by decide +kernel)) ggX1_whatSaid_X0_sendUp
set_option maxRecDepth 20000 in
theorem ggX1_whatSaid_X1_rowFitsMind : GoodIn wsX1_whatSaid wsX1_rowFitsMind := goodIn_r _ [66, 67, 2, 68, 69, 70, 71, 72, 8, 73, 35, 74, 75, 76, 77, 78, 79, 80, 81, 82, 83, 84, 85, 86, 87, 88, 89, 90, 91, 92, 93, 94, 95, 96, 97, 98, 99, 100, 101, 102, 103, 104] (by decide +kernel) (by decide +kernel)
set_option maxRecDepth 20000 in
theorem gX1_whatSaid_X1_rowFitsMind : GoodIn wsX1_whatSaid (wsV RX1 235 RX1 yX1_rowFitsMind wsX1_rowFitsMind) := goodIn_app (goodIn_of _ (by decide +kernel)) ggX1_whatSaid_X1_rowFitsMind
theorem dX1_whatSaid_0 : decode cX1_whatSaid 0 = .ok (.aload_n 0, 1) := by decide +kernel
theorem dX1_whatSaid_1 : decode cX1_whatSaid 1 = .ok (.getfield 10, 3) := by decide +kernel
theorem dX1_whatSaid_4 : decode cX1_whatSaid 4 = .ok (.iload_n 1, 1) := by decide +kernel
theorem dX1_whatSaid_5 : decode cX1_whatSaid 5 = .ok (.invokevirtual 70, 3) := by decide +kernel
theorem dX1_whatSaid_8 : decode cX1_whatSaid 8 = .ok (.ifCond .ne 9, 3) := by decide +kernel
theorem dX1_whatSaid_11 : decode cX1_whatSaid 11 = .ok (.aload_n 0, 1) := by decide +kernel
theorem dX1_whatSaid_12 : decode cX1_whatSaid 12 = .ok (.iconst (-1), 1) := by decide +kernel
theorem dX1_whatSaid_13 : decode cX1_whatSaid 13 = .ok (.invokevirtual 52, 3) := by decide +kernel
theorem dX1_whatSaid_16 : decode cX1_whatSaid 16 = .ok (.ireturn, 1) := by decide +kernel
theorem dX1_whatSaid_17 : decode cX1_whatSaid 17 = .ok (.iload_n 2, 1) := by decide +kernel
theorem dX1_whatSaid_18 : decode cX1_whatSaid 18 = .ok (.invokestatic 156, 3) := by decide +kernel
theorem dX1_whatSaid_21 : decode cX1_whatSaid 21 = .ok (.ifCond .ne 10, 3) := by decide +kernel
theorem dX1_whatSaid_24 : decode cX1_whatSaid 24 = .ok (.aload_n 0, 1) := by decide +kernel
theorem dX1_whatSaid_25 : decode cX1_whatSaid 25 = .ok (.bipush (-2), 2) := by decide +kernel
theorem dX1_whatSaid_27 : decode cX1_whatSaid 27 = .ok (.invokevirtual 52, 3) := by decide +kernel
theorem dX1_whatSaid_30 : decode cX1_whatSaid 30 = .ok (.ireturn, 1) := by decide +kernel
theorem dX1_whatSaid_31 : decode cX1_whatSaid 31 = .ok (.iconst 0, 1) := by decide +kernel
theorem dX1_whatSaid_32 : decode cX1_whatSaid 32 = .ok (.istore_n 3, 1) := by decide +kernel
theorem dX1_whatSaid_33 : decode cX1_whatSaid 33 = .ok (.iload_n 2, 1) := by decide +kernel
theorem dX1_whatSaid_34 : decode cX1_whatSaid 34 = .ok (.ifCond .ne 8, 3) := by decide +kernel
theorem dX1_whatSaid_37 : decode cX1_whatSaid 37 = .ok (.bipush 6, 2) := by decide +kernel
theorem dX1_whatSaid_39 : decode cX1_whatSaid 39 = .ok (.goto 5, 3) := by decide +kernel
theorem dX1_whatSaid_42 : decode cX1_whatSaid 42 = .ok (.bipush 6, 2) := by decide +kernel
theorem dX1_whatSaid_44 : decode cX1_whatSaid 44 = .ok (.istore 4, 2) := by decide +kernel
theorem dX1_whatSaid_46 : decode cX1_whatSaid 46 = .ok (.iconst 0, 1) := by decide +kernel
theorem dX1_whatSaid_47 : decode cX1_whatSaid 47 = .ok (.istore 5, 2) := by decide +kernel
theorem dX1_whatSaid_49 : decode cX1_whatSaid 49 = .ok (.iload 5, 2) := by decide +kernel
theorem dX1_whatSaid_51 : decode cX1_whatSaid 51 = .ok (.iload 4, 2) := by decide +kernel
theorem dX1_whatSaid_53 : decode cX1_whatSaid 53 = .ok (.if_icmp .ge 73, 3) := by decide +kernel
theorem dX1_whatSaid_56 : decode cX1_whatSaid 56 = .ok (.aload_n 0, 1) := by decide +kernel
theorem dX1_whatSaid_57 : decode cX1_whatSaid 57 = .ok (.getfield 16, 3) := by decide +kernel
theorem dX1_whatSaid_60 : decode cX1_whatSaid 60 = .ok (.aload_n 0, 1) := by decide +kernel
theorem dX1_whatSaid_61 : decode cX1_whatSaid 61 = .ok (.getfield 10, 3) := by decide +kernel
theorem dX1_whatSaid_64 : decode cX1_whatSaid 64 = .ok (.invokevirtual 59, 3) := by decide +kernel
theorem dX1_whatSaid_67 : decode cX1_whatSaid 67 = .ok (.iload_n 2, 1) := by decide +kernel
theorem dX1_whatSaid_68 : decode cX1_whatSaid 68 = .ok (.ifCond .ne 17, 3) := by decide +kernel
theorem dX1_whatSaid_71 : decode cX1_whatSaid 71 = .ok (.aload_n 0, 1) := by decide +kernel
theorem dX1_whatSaid_72 : decode cX1_whatSaid 72 = .ok (.getfield 16, 3) := by decide +kernel
theorem dX1_whatSaid_75 : decode cX1_whatSaid 75 = .ok (.getfield 79, 3) := by decide +kernel
theorem dX1_whatSaid_78 : decode cX1_whatSaid 78 = .ok (.iload_n 1, 1) := by decide +kernel
theorem dX1_whatSaid_79 : decode cX1_whatSaid 79 = .ok (.iload 5, 2) := by decide +kernel
theorem dX1_whatSaid_81 : decode cX1_whatSaid 81 = .ok (.iastore, 1) := by decide +kernel
theorem dX1_whatSaid_82 : decode cX1_whatSaid 82 = .ok (.goto 14, 3) := by decide +kernel
theorem dX1_whatSaid_85 : decode cX1_whatSaid 85 = .ok (.aload_n 0, 1) := by decide +kernel
theorem dX1_whatSaid_86 : decode cX1_whatSaid 86 = .ok (.getfield 16, 3) := by decide +kernel
theorem dX1_whatSaid_89 : decode cX1_whatSaid 89 = .ok (.getfield 73, 3) := by decide +kernel
theorem dX1_whatSaid_92 : decode cX1_whatSaid 92 = .ok (.iload_n 1, 1) := by decide +kernel
theorem dX1_whatSaid_93 : decode cX1_whatSaid 93 = .ok (.iload 5, 2) := by decide +kernel
theorem dX1_whatSaid_95 : decode cX1_whatSaid 95 = .ok (.iastore, 1) := by decide +kernel
theorem dX1_whatSaid_96 : decode cX1_whatSaid 96 = .ok (.aload_n 0, 1) := by decide +kernel
theorem dX1_whatSaid_97 : decode cX1_whatSaid 97 = .ok (.getfield 16, 3) := by decide +kernel
theorem dX1_whatSaid_100 : decode cX1_whatSaid 100 = .ok (.iload_n 1, 1) := by decide +kernel
theorem dX1_whatSaid_101 : decode cX1_whatSaid 101 = .ok (.bipush 31, 2) := by decide +kernel
theorem dX1_whatSaid_103 : decode cX1_whatSaid 103 = .ok (.invokevirtual 118, 3) := by decide +kernel
theorem dX1_whatSaid_106 : decode cX1_whatSaid 106 = .ok (.aload_n 0, 1) := by decide +kernel
theorem dX1_whatSaid_107 : decode cX1_whatSaid 107 = .ok (.invokevirtual 235, 3) := by decide +kernel
theorem dX1_whatSaid_110 : decode cX1_whatSaid 110 = .ok (.ifCond .eq 10, 3) := by decide +kernel
theorem dX1_whatSaid_113 : decode cX1_whatSaid 113 = .ok (.iload_n 3, 1) := by decide +kernel
theorem dX1_whatSaid_114 : decode cX1_whatSaid 114 = .ok (.iconst 1, 1) := by decide +kernel
theorem dX1_whatSaid_115 : decode cX1_whatSaid 115 = .ok (.iload 5, 2) := by decide +kernel
theorem dX1_whatSaid_117 : decode cX1_whatSaid 117 = .ok (.ishl, 1) := by decide +kernel
theorem dX1_whatSaid_118 : decode cX1_whatSaid 118 = .ok (.ior, 1) := by decide +kernel
theorem dX1_whatSaid_119 : decode cX1_whatSaid 119 = .ok (.istore_n 3, 1) := by decide +kernel
theorem dX1_whatSaid_120 : decode cX1_whatSaid 120 = .ok (.iinc 5 1, 3) := by decide +kernel
theorem dX1_whatSaid_123 : decode cX1_whatSaid 123 = .ok (.goto (-74), 3) := by decide +kernel
theorem dX1_whatSaid_126 : decode cX1_whatSaid 126 = .ok (.iload_n 3, 1) := by decide +kernel
theorem dX1_whatSaid_127 : decode cX1_whatSaid 127 = .ok (.ireturn, 1) := by decide +kernel
set_option maxRecDepth 20000 in
theorem ggX1_row_X1_outside : GoodIn wsX1_row wsX1_outside := goodIn_r _ [6] (by decide +kernel) (by decide +kernel)
set_option maxRecDepth 20000 in
theorem gX1_row_X1_outside : GoodIn wsX1_row (va_wsS RX1 140 yX1_outside wsX1_outside) := goodIn_app (goodIn_of _ (by decide +kernel)) ggX1_row_X1_outside
set_option maxRecDepth 20000 in
theorem ggX1_row_X1_refuse : GoodIn wsX1_row wsX1_refuse := goodIn_r _ [10, 11, 12, 13, 14, 15, 16, 17, 18, 19, 20, 21, 22, 23] (by decide +kernel) (by decide +kernel)
set_option maxRecDepth 20000 in
theorem gX1_row_X1_refuse : GoodIn wsX1_row (wsV RX1 52 RX1 yX1_refuse wsX1_refuse) := goodIn_app (goodIn_of _ (by decide +kernel)) ggX1_row_X1_refuse
theorem dX1_row_0 : decode cX1_row 0 = .ok (.iload_n 1, 1) := by decide +kernel
theorem dX1_row_1 : decode cX1_row 1 = .ok (.iconst 0, 1) := by decide +kernel
theorem dX1_row_2 : decode cX1_row 2 = .ok (.bipush 99, 2) := by decide +kernel
theorem dX1_row_4 : decode cX1_row 4 = .ok (.invokestatic 140, 3) := by decide +kernel
theorem dX1_row_7 : decode cX1_row 7 = .ok (.istore_n 2, 1) := by decide +kernel
theorem dX1_row_8 : decode cX1_row 8 = .ok (.iload_n 2, 1) := by decide +kernel
theorem dX1_row_9 : decode cX1_row 9 = .ok (.ifCond .eq 9, 3) := by decide +kernel
theorem dX1_row_12 : decode cX1_row 12 = .ok (.aload_n 0, 1) := by decide +kernel
theorem dX1_row_13 : decode cX1_row 13 = .ok (.iload_n 2, 1) := by decide +kernel
theorem dX1_row_14 : decode cX1_row 14 = .ok (.invokevirtual 52, 3) := by decide +kernel
theorem dX1_row_17 : decode cX1_row 17 = .ok (.ireturn, 1) := by decide +kernel
theorem dX1_row_18 : decode cX1_row 18 = .ok (.aload_n 0, 1) := by decide +kernel
theorem dX1_row_19 : decode cX1_row 19 = .ok (.getfield 37, 3) := by decide +kernel
theorem dX1_row_22 : decode cX1_row 22 = .ok (.bipush 16, 2) := by decide +kernel
theorem dX1_row_24 : decode cX1_row 24 = .ok (.if_icmp .lt 10, 3) := by decide +kernel
theorem dX1_row_27 : decode cX1_row 27 = .ok (.aload_n 0, 1) := by decide +kernel
theorem dX1_row_28 : decode cX1_row 28 = .ok (.bipush (-6), 2) := by decide +kernel
theorem dX1_row_30 : decode cX1_row 30 = .ok (.invokevirtual 52, 3) := by decide +kernel
theorem dX1_row_33 : decode cX1_row 33 = .ok (.ireturn, 1) := by decide +kernel
theorem dX1_row_34 : decode cX1_row 34 = .ok (.aload_n 0, 1) := by decide +kernel
theorem dX1_row_35 : decode cX1_row 35 = .ok (.getfield 34, 3) := by decide +kernel
theorem dX1_row_38 : decode cX1_row 38 = .ok (.aload_n 0, 1) := by decide +kernel
theorem dX1_row_39 : decode cX1_row 39 = .ok (.getfield 37, 3) := by decide +kernel
theorem dX1_row_42 : decode cX1_row 42 = .ok (.iload_n 1, 1) := by decide +kernel
theorem dX1_row_43 : decode cX1_row 43 = .ok (.iastore, 1) := by decide +kernel
theorem dX1_row_44 : decode cX1_row 44 = .ok (.aload_n 0, 1) := by decide +kernel
theorem dX1_row_45 : decode cX1_row 45 = .ok (.dup, 1) := by decide +kernel
theorem dX1_row_46 : decode cX1_row 46 = .ok (.getfield 37, 3) := by decide +kernel
theorem dX1_row_49 : decode cX1_row 49 = .ok (.iconst 1, 1) := by decide +kernel
theorem dX1_row_50 : decode cX1_row 50 = .ok (.iadd, 1) := by decide +kernel
theorem dX1_row_51 : decode cX1_row 51 = .ok (.putfield 37, 3) := by decide +kernel
theorem dX1_row_54 : decode cX1_row 54 = .ok (.aload_n 0, 1) := by decide +kernel
theorem dX1_row_55 : decode cX1_row 55 = .ok (.getfield 37, 3) := by decide +kernel
theorem dX1_row_58 : decode cX1_row 58 = .ok (.ireturn, 1) := by decide +kernel
set_option maxRecDepth 20000 in
theorem ggX1_judge_X0_copyFrom : GoodIn wsX1_judge wsX0_copyFrom := goodIn_r _ [14, 15, 16, 17, 18, 19, 20, 21, 22, 23, 24, 25, 26, 27, 28, 29, 30, 91, 92, 93, 94, 95, 96, 97, 98, 99, 100, 101, 102] (by decide +kernel) (by decide +kernel)
set_option maxRecDepth 20000 in
theorem gX1_judge_X0_copyFrom : GoodIn wsX1_judge (wsV RX1 59 RX0 yX0_copyFrom wsX0_copyFrom) := goodIn_app (goodIn_of _ (by decide +kernel)) ggX1_judge_X0_copyFrom
set_option maxRecDepth 20000 in
theorem ggX1_judge_X0_passNights : GoodIn wsX1_judge wsX0_passNights := goodIn_r _ [34, 30, 35, 36, 37, 13, 38, 24, 27, 39, 40, 41, 42, 15, 43, 44, 45, 46, 28, 47, 48, 49, 50, 51, 52, 53, 54, 23, 55, 56, 57, 58, 16, 59, 60, 61, 62, 22, 26, 63, 64, 65, 66, 67, 68, 69, 70, 25, 71, 72, 73, 74, 29, 75, 76, 77, 78, 21, 91, 92, 93, 94, 95, 96, 97, 98, 99, 100, 101, 102] (by decide +kernel) (by decide +kernel)
set_option maxRecDepth 20000 in
theorem gX1_judge_X0_passNights : GoodIn wsX1_judge (wsV RX1 150 RX0 yX0_passNights wsX0_passNights) := goodIn_app (goodIn_of _ (by decide +kernel)) ggX1_judge_X0_passNights
theorem dX1_judge_0 : decode cX1_judge 0 = .ok (.aload_n 0, 1) := by decide +kernel
theorem dX1_judge_1 : decode cX1_judge 1 = .ok (.getfield 37, 3) := by decide +kernel
theorem dX1_judge_4 : decode cX1_judge 4 = .ok (.istore_n 1, 1) := by decide +kernel
theorem dX1_judge_5 : decode cX1_judge 5 = .ok (.aload_n 0, 1) := by decide +kernel
theorem dX1_judge_6 : decode cX1_judge 6 = .ok (.iconst 0, 1) := by decide +kernel
theorem dX1_judge_7 : decode cX1_judge 7 = .ok (.putfield 37, 3) := by decide +kernel
theorem dX1_judge_10 : decode cX1_judge 10 = .ok (.aload_n 0, 1) := by decide +kernel
theorem dX1_judge_11 : decode cX1_judge 11 = .ok (.getfield 16, 3) := by decide +kernel
theorem dX1_judge_14 : decode cX1_judge 14 = .ok (.aload_n 0, 1) := by decide +kernel
theorem dX1_judge_15 : decode cX1_judge 15 = .ok (.getfield 10, 3) := by decide +kernel
theorem dX1_judge_18 : decode cX1_judge 18 = .ok (.invokevirtual 59, 3) := by decide +kernel
theorem dX1_judge_21 : decode cX1_judge 21 = .ok (.iconst 0, 1) := by decide +kernel
theorem dX1_judge_22 : decode cX1_judge 22 = .ok (.istore_n 2, 1) := by decide +kernel
theorem dX1_judge_23 : decode cX1_judge 23 = .ok (.iload_n 2, 1) := by decide +kernel
theorem dX1_judge_24 : decode cX1_judge 24 = .ok (.iload_n 1, 1) := by decide +kernel
theorem dX1_judge_25 : decode cX1_judge 25 = .ok (.if_icmp .ge 42, 3) := by decide +kernel
theorem dX1_judge_28 : decode cX1_judge 28 = .ok (.aload_n 0, 1) := by decide +kernel
theorem dX1_judge_29 : decode cX1_judge 29 = .ok (.getfield 34, 3) := by decide +kernel
theorem dX1_judge_32 : decode cX1_judge 32 = .ok (.iload_n 2, 1) := by decide +kernel
theorem dX1_judge_33 : decode cX1_judge 33 = .ok (.iaload, 1) := by decide +kernel
theorem dX1_judge_34 : decode cX1_judge 34 = .ok (.aload_n 0, 1) := by decide +kernel
theorem dX1_judge_35 : decode cX1_judge 35 = .ok (.getfield 16, 3) := by decide +kernel
theorem dX1_judge_38 : decode cX1_judge 38 = .ok (.getfield 122, 3) := by decide +kernel
theorem dX1_judge_41 : decode cX1_judge 41 = .ok (.bipush 99, 2) := by decide +kernel
theorem dX1_judge_43 : decode cX1_judge 43 = .ok (.invokestatic 239, 3) := by decide +kernel
theorem dX1_judge_46 : decode cX1_judge 46 = .ok (.if_icmp .eq 5, 3) := by decide +kernel
theorem dX1_judge_49 : decode cX1_judge 49 = .ok (.iload_n 2, 1) := by decide +kernel
theorem dX1_judge_50 : decode cX1_judge 50 = .ok (.ireturn, 1) := by decide +kernel
theorem dX1_judge_51 : decode cX1_judge 51 = .ok (.aload_n 0, 1) := by decide +kernel
theorem dX1_judge_52 : decode cX1_judge 52 = .ok (.getfield 16, 3) := by decide +kernel
theorem dX1_judge_55 : decode cX1_judge 55 = .ok (.iconst 1, 1) := by decide +kernel
theorem dX1_judge_56 : decode cX1_judge 56 = .ok (.bipush 31, 2) := by decide +kernel
theorem dX1_judge_58 : decode cX1_judge 58 = .ok (.invokevirtual 150, 3) := by decide +kernel
theorem dX1_judge_61 : decode cX1_judge 61 = .ok (.iinc 2 1, 3) := by decide +kernel
theorem dX1_judge_64 : decode cX1_judge 64 = .ok (.goto (-41), 3) := by decide +kernel
theorem dX1_judge_67 : decode cX1_judge 67 = .ok (.bipush (-9), 2) := by decide +kernel
theorem dX1_judge_69 : decode cX1_judge 69 = .ok (.ireturn, 1) := by decide +kernel
theorem dX1_clear_0 : decode cX1_clear 0 = .ok (.aload_n 0, 1) := by decide +kernel
theorem dX1_clear_1 : decode cX1_clear 1 = .ok (.getfield 37, 3) := by decide +kernel
theorem dX1_clear_4 : decode cX1_clear 4 = .ok (.istore_n 1, 1) := by decide +kernel
theorem dX1_clear_5 : decode cX1_clear 5 = .ok (.aload_n 0, 1) := by decide +kernel
theorem dX1_clear_6 : decode cX1_clear 6 = .ok (.iconst 0, 1) := by decide +kernel
theorem dX1_clear_7 : decode cX1_clear 7 = .ok (.putfield 37, 3) := by decide +kernel
theorem dX1_clear_10 : decode cX1_clear 10 = .ok (.iload_n 1, 1) := by decide +kernel
theorem dX1_clear_11 : decode cX1_clear 11 = .ok (.ireturn, 1) := by decide +kernel
set_option maxRecDepth 20000 in
theorem ggX1_lots_X1_outside : GoodIn wsX1_lots wsX1_outside := goodIn_r _ [10] (by decide +kernel) (by decide +kernel)
set_option maxRecDepth 20000 in
theorem gX1_lots_X1_outside : GoodIn wsX1_lots (va_wsS RX1 140 yX1_outside wsX1_outside) := goodIn_app (goodIn_of _ (by decide +kernel)) ggX1_lots_X1_outside
set_option maxRecDepth 20000 in
theorem ggX1_lots_X1_refuse : GoodIn wsX1_lots wsX1_refuse := goodIn_r _ [14, 15, 111, 112, 113, 114, 115, 116, 117, 118, 119, 120, 121, 122] (by decide +kernel) (by decide +kernel)
set_option maxRecDepth 20000 in
theorem gX1_lots_X1_refuse : GoodIn wsX1_lots (wsV RX1 52 RX1 yX1_refuse wsX1_refuse) := goodIn_app (goodIn_of _ (by decide +kernel)) ggX1_lots_X1_refuse
set_option maxRecDepth 20000 in
theorem ggX1_lots_X1_isOneOfTwo : GoodIn wsX1_lots wsX1_isOneOfTwo := goodIn_r _ [18] (by decide +kernel) (by decide +kernel)
set_option maxRecDepth 20000 in
theorem gX1_lots_X1_isOneOfTwo : GoodIn wsX1_lots (va_wsS RX1 156 yX1_isOneOfTwo wsX1_isOneOfTwo) := goodIn_app (goodIn_of _ (by decide +kernel)) ggX1_lots_X1_isOneOfTwo
set_option maxRecDepth 20000 in
theorem ggX1_lots_X0_copyFrom : GoodIn wsX1_lots wsX0_copyFrom := goodIn_r _ [23, 24, 25, 26, 27, 28, 29, 30, 31, 32, 33, 34, 35, 36, 37, 38, 39, 123, 124, 125, 126, 127, 128, 129, 130, 131, 132, 133, 134] (by decide +kernel) (by decide +kernel)
set_option maxRecDepth 20000 in
theorem gX1_lots_X0_copyFrom : GoodIn wsX1_lots (wsV RX1 59 RX0 yX0_copyFrom wsX0_copyFrom) := goodIn_app (goodIn_of _ (by decide +kernel)) ggX1_lots_X0_copyFrom
set_option maxRecDepth 20000 in
theorem ggX1_lots_X0_passNights : GoodIn wsX1_lots wsX0_passNights := goodIn_r _ [43, 39, 44, 45, 46, 22, 47, 33, 36, 48, 49, 50, 51, 24, 52, 53, 54, 55, 37, 56, 57, 58, 59, 60, 61, 62, 63, 32, 64, 65, 66, 67, 25, 68, 69, 70, 71, 31, 35, 72, 73, 74, 75, 76, 77, 78, 79, 34, 80, 81, 82, 83, 38, 84, 85, 86, 87, 30, 123, 124, 125, 126, 127, 128, 129, 130, 131, 132, 133, 134] (by decide +kernel) (by decide +kernel)
set_option maxRecDepth 20000 in
theorem gX1_lots_X0_passNights : GoodIn wsX1_lots (wsV RX1 150 RX0 yX0_passNights wsX0_passNights) := goodIn_app (goodIn_of _ (by decide +kernel)) ggX1_lots_X0_passNights
set_option maxRecDepth 20000 in
theorem ggX1_lots_X0_countWhole : GoodIn wsX1_lots wsX0_countWhole := goodIn_r _ [91, 33, 92, 93, 94, 22, 95, 96, 97, 98, 99, 36, 123, 124, 125, 126, 127, 128, 129, 130, 131, 132, 133, 134] (by decide +kernel) (by decide +kernel)
set_option maxRecDepth 20000 in
theorem gX1_lots_X0_countWhole : GoodIn wsX1_lots (wsV RX1 181 RX0 yX0_countWhole wsX0_countWhole) := goodIn_app (goodIn_of _ (by decide +kernel)) ggX1_lots_X0_countWhole
set_option maxRecDepth 20000 in
theorem ggX1_lots_X0_countWords : GoodIn wsX1_lots wsX0_countWords := goodIn_r _ [103, 33, 96, 97, 98, 22, 99, 36, 104, 105, 106, 107, 108, 109, 110, 123, 124, 125, 126, 127, 128, 129, 130, 131, 132, 133, 134] (by decide +kernel) (by decide +kernel)
set_option maxRecDepth 20000 in
theorem gX1_lots_X0_countWords : GoodIn wsX1_lots (wsV RX1 245 RX0 yX0_countWords wsX0_countWords) := goodIn_app (goodIn_of _ (by decide +kernel)) ggX1_lots_X0_countWords
theorem dX1_lots_0 : decode cX1_lots 0 = .ok (.iload_n 1, 1) := by decide +kernel
theorem dX1_lots_1 : decode cX1_lots 1 = .ok (.iconst 1, 1) := by decide +kernel
theorem dX1_lots_2 : decode cX1_lots 2 = .ok (.bipush 20, 2) := by decide +kernel
theorem dX1_lots_4 : decode cX1_lots 4 = .ok (.invokestatic 140, 3) := by decide +kernel
theorem dX1_lots_7 : decode cX1_lots 7 = .ok (.istore 4, 2) := by decide +kernel
theorem dX1_lots_9 : decode cX1_lots 9 = .ok (.iload 4, 2) := by decide +kernel
theorem dX1_lots_11 : decode cX1_lots 11 = .ok (.ifCond .eq 10, 3) := by decide +kernel
theorem dX1_lots_14 : decode cX1_lots 14 = .ok (.aload_n 0, 1) := by decide +kernel
theorem dX1_lots_15 : decode cX1_lots 15 = .ok (.iload 4, 2) := by decide +kernel
theorem dX1_lots_17 : decode cX1_lots 17 = .ok (.invokevirtual 52, 3) := by decide +kernel
theorem dX1_lots_20 : decode cX1_lots 20 = .ok (.ireturn, 1) := by decide +kernel
theorem dX1_lots_21 : decode cX1_lots 21 = .ok (.iload_n 3, 1) := by decide +kernel
theorem dX1_lots_22 : decode cX1_lots 22 = .ok (.invokestatic 156, 3) := by decide +kernel
theorem dX1_lots_25 : decode cX1_lots 25 = .ok (.ifCond .ne 10, 3) := by decide +kernel
theorem dX1_lots_28 : decode cX1_lots 28 = .ok (.aload_n 0, 1) := by decide +kernel
theorem dX1_lots_29 : decode cX1_lots 29 = .ok (.bipush (-2), 2) := by decide +kernel
theorem dX1_lots_31 : decode cX1_lots 31 = .ok (.invokevirtual 52, 3) := by decide +kernel
theorem dX1_lots_34 : decode cX1_lots 34 = .ok (.ireturn, 1) := by decide +kernel
theorem dX1_lots_35 : decode cX1_lots 35 = .ok (.iload_n 2, 1) := by decide +kernel
theorem dX1_lots_36 : decode cX1_lots 36 = .ok (.istore 5, 2) := by decide +kernel
theorem dX1_lots_38 : decode cX1_lots 38 = .ok (.iconst 0, 1) := by decide +kernel
theorem dX1_lots_39 : decode cX1_lots 39 = .ok (.istore 6, 2) := by decide +kernel
theorem dX1_lots_41 : decode cX1_lots 41 = .ok (.iconst 0, 1) := by decide +kernel
theorem dX1_lots_42 : decode cX1_lots 42 = .ok (.istore 7, 2) := by decide +kernel
theorem dX1_lots_44 : decode cX1_lots 44 = .ok (.iload 7, 2) := by decide +kernel
theorem dX1_lots_46 : decode cX1_lots 46 = .ok (.iload_n 1, 1) := by decide +kernel
theorem dX1_lots_47 : decode cX1_lots 47 = .ok (.if_icmp .ge 101, 3) := by decide +kernel
theorem dX1_lots_50 : decode cX1_lots 50 = .ok (.aload_n 0, 1) := by decide +kernel
theorem dX1_lots_51 : decode cX1_lots 51 = .ok (.getfield 16, 3) := by decide +kernel
theorem dX1_lots_54 : decode cX1_lots 54 = .ok (.aload_n 0, 1) := by decide +kernel
theorem dX1_lots_55 : decode cX1_lots 55 = .ok (.getfield 10, 3) := by decide +kernel
theorem dX1_lots_58 : decode cX1_lots 58 = .ok (.invokevirtual 59, 3) := by decide +kernel
theorem dX1_lots_61 : decode cX1_lots 61 = .ok (.iconst 0, 1) := by decide +kernel
theorem dX1_lots_62 : decode cX1_lots 62 = .ok (.istore 8, 2) := by decide +kernel
theorem dX1_lots_64 : decode cX1_lots 64 = .ok (.iload 8, 2) := by decide +kernel
theorem dX1_lots_66 : decode cX1_lots 66 = .ok (.bipush 8, 2) := by decide +kernel
theorem dX1_lots_68 : decode cX1_lots 68 = .ok (.if_icmp .ge 48, 3) := by decide +kernel
theorem dX1_lots_71 : decode cX1_lots 71 = .ok (.iload 5, 2) := by decide +kernel
theorem dX1_lots_73 : decode cX1_lots 73 = .ok (.ldc 242, 2) := by decide +kernel
theorem dX1_lots_75 : decode cX1_lots 75 = .ok (.imul, 1) := by decide +kernel
theorem dX1_lots_76 : decode cX1_lots 76 = .ok (.ldc 243, 2) := by decide +kernel
theorem dX1_lots_78 : decode cX1_lots 78 = .ok (.iadd, 1) := by decide +kernel
theorem dX1_lots_79 : decode cX1_lots 79 = .ok (.istore 5, 2) := by decide +kernel
theorem dX1_lots_81 : decode cX1_lots 81 = .ok (.aload_n 0, 1) := by decide +kernel
theorem dX1_lots_82 : decode cX1_lots 82 = .ok (.getfield 16, 3) := by decide +kernel
theorem dX1_lots_85 : decode cX1_lots 85 = .ok (.iload 5, 2) := by decide +kernel
theorem dX1_lots_87 : decode cX1_lots 87 = .ok (.ldc 244, 2) := by decide +kernel
theorem dX1_lots_89 : decode cX1_lots 89 = .ok (.iand, 1) := by decide +kernel
theorem dX1_lots_90 : decode cX1_lots 90 = .ok (.sipush 256, 3) := by decide +kernel
theorem dX1_lots_93 : decode cX1_lots 93 = .ok (.idiv, 1) := by decide +kernel
theorem dX1_lots_94 : decode cX1_lots 94 = .ok (.bipush 10, 2) := by decide +kernel
theorem dX1_lots_96 : decode cX1_lots 96 = .ok (.irem, 1) := by decide +kernel
theorem dX1_lots_97 : decode cX1_lots 97 = .ok (.putfield 144, 3) := by decide +kernel
theorem dX1_lots_100 : decode cX1_lots 100 = .ok (.aload_n 0, 1) := by decide +kernel
theorem dX1_lots_101 : decode cX1_lots 101 = .ok (.getfield 16, 3) := by decide +kernel
theorem dX1_lots_104 : decode cX1_lots 104 = .ok (.iconst 1, 1) := by decide +kernel
theorem dX1_lots_105 : decode cX1_lots 105 = .ok (.bipush 31, 2) := by decide +kernel
theorem dX1_lots_107 : decode cX1_lots 107 = .ok (.invokevirtual 150, 3) := by decide +kernel
theorem dX1_lots_110 : decode cX1_lots 110 = .ok (.iinc 8 1, 3) := by decide +kernel
theorem dX1_lots_113 : decode cX1_lots 113 = .ok (.goto (-49), 3) := by decide +kernel
theorem dX1_lots_116 : decode cX1_lots 116 = .ok (.iload 6, 2) := by decide +kernel
theorem dX1_lots_118 : decode cX1_lots 118 = .ok (.iload_n 3, 1) := by decide +kernel
theorem dX1_lots_119 : decode cX1_lots 119 = .ok (.ifCond .ne 13, 3) := by decide +kernel
theorem dX1_lots_122 : decode cX1_lots 122 = .ok (.aload_n 0, 1) := by decide +kernel
theorem dX1_lots_123 : decode cX1_lots 123 = .ok (.getfield 16, 3) := by decide +kernel
theorem dX1_lots_126 : decode cX1_lots 126 = .ok (.invokevirtual 181, 3) := by decide +kernel
theorem dX1_lots_129 : decode cX1_lots 129 = .ok (.goto 10, 3) := by decide +kernel
theorem dX1_lots_132 : decode cX1_lots 132 = .ok (.aload_n 0, 1) := by decide +kernel
theorem dX1_lots_133 : decode cX1_lots 133 = .ok (.getfield 16, 3) := by decide +kernel
theorem dX1_lots_136 : decode cX1_lots 136 = .ok (.invokevirtual 245, 3) := by decide +kernel
theorem dX1_lots_139 : decode cX1_lots 139 = .ok (.iadd, 1) := by decide +kernel
theorem dX1_lots_140 : decode cX1_lots 140 = .ok (.istore 6, 2) := by decide +kernel
theorem dX1_lots_142 : decode cX1_lots 142 = .ok (.iinc 7 1, 3) := by decide +kernel
theorem dX1_lots_145 : decode cX1_lots 145 = .ok (.goto (-101), 3) := by decide +kernel
theorem dX1_lots_148 : decode cX1_lots 148 = .ok (.iload 6, 2) := by decide +kernel
theorem dX1_lots_150 : decode cX1_lots 150 = .ok (.ireturn, 1) := by decide +kernel
set_option maxRecDepth 20000 in
theorem ggX1_image_X0_copyFrom : GoodIn wsX1_image wsX0_copyFrom := goodIn_r _ [9, 10, 11, 12, 13, 14, 15, 16, 17, 18, 19, 20, 21, 22, 23, 24, 25, 38, 39, 40, 41, 42, 43, 44, 45, 46, 47, 48, 49] (by decide +kernel) (by decide +kernel)
set_option maxRecDepth 20000 in
theorem gX1_image_X0_copyFrom : GoodIn wsX1_image (wsV RX1 59 RX0 yX0_copyFrom wsX0_copyFrom) := goodIn_app (goodIn_of _ (by decide +kernel)) ggX1_image_X0_copyFrom
theorem dX1_image_0 : decode cX1_image 0 = .ok (.aload_n 0, 1) := by decide +kernel
theorem dX1_image_1 : decode cX1_image 1 = .ok (.getfield 19, 3) := by decide +kernel
theorem dX1_image_4 : decode cX1_image 4 = .ok (.aload_n 0, 1) := by decide +kernel
theorem dX1_image_5 : decode cX1_image 5 = .ok (.getfield 10, 3) := by decide +kernel
theorem dX1_image_8 : decode cX1_image 8 = .ok (.invokevirtual 59, 3) := by decide +kernel
theorem dX1_image_11 : decode cX1_image 11 = .ok (.aload_n 0, 1) := by decide +kernel
theorem dX1_image_12 : decode cX1_image 12 = .ok (.iconst 1, 1) := by decide +kernel
theorem dX1_image_13 : decode cX1_image 13 = .ok (.putfield 22, 3) := by decide +kernel
theorem dX1_image_16 : decode cX1_image 16 = .ok (.aload_n 0, 1) := by decide +kernel
theorem dX1_image_17 : decode cX1_image 17 = .ok (.getfield 10, 3) := by decide +kernel
theorem dX1_image_20 : decode cX1_image 20 = .ok (.getfield 147, 3) := by decide +kernel
theorem dX1_image_23 : decode cX1_image 23 = .ok (.ireturn, 1) := by decide +kernel
set_option maxRecDepth 20000 in
theorem ggX1_on_X1_refuse : GoodIn wsX1_on wsX1_refuse := goodIn_r _ [9, 10, 32, 33, 34, 35, 36, 37, 38, 39, 40, 41, 42, 43] (by decide +kernel) (by decide +kernel)
set_option maxRecDepth 20000 in
theorem gX1_on_X1_refuse : GoodIn wsX1_on (wsV RX1 52 RX1 yX1_refuse wsX1_refuse) := goodIn_app (goodIn_of _ (by decide +kernel)) ggX1_on_X1_refuse
set_option maxRecDepth 20000 in
theorem ggX1_on_X0_copyFrom : GoodIn wsX1_on wsX0_copyFrom := goodIn_r _ [15, 16, 17, 18, 19, 20, 21, 22, 23, 24, 25, 26, 27, 28, 29, 30, 31, 44, 45, 46, 47, 48, 49, 50, 51, 52, 53, 54, 55] (by decide +kernel) (by decide +kernel)
set_option maxRecDepth 20000 in
theorem gX1_on_X0_copyFrom : GoodIn wsX1_on (wsV RX1 59 RX0 yX0_copyFrom wsX0_copyFrom) := goodIn_app (goodIn_of _ (by decide +kernel)) ggX1_on_X0_copyFrom
theorem dX1_on_0 : decode cX1_on 0 = .ok (.aload_n 0, 1) := by decide +kernel
theorem dX1_on_1 : decode cX1_on 1 = .ok (.getfield 22, 3) := by decide +kernel
theorem dX1_on_4 : decode cX1_on 4 = .ok (.ifCond .ne 10, 3) := by decide +kernel
theorem dX1_on_7 : decode cX1_on 7 = .ok (.aload_n 0, 1) := by decide +kernel
theorem dX1_on_8 : decode cX1_on 8 = .ok (.bipush (-3), 2) := by decide +kernel
theorem dX1_on_10 : decode cX1_on 10 = .ok (.invokevirtual 52, 3) := by decide +kernel
theorem dX1_on_13 : decode cX1_on 13 = .ok (.ireturn, 1) := by decide +kernel
theorem dX1_on_14 : decode cX1_on 14 = .ok (.aload_n 0, 1) := by decide +kernel
theorem dX1_on_15 : decode cX1_on 15 = .ok (.getfield 10, 3) := by decide +kernel
theorem dX1_on_18 : decode cX1_on 18 = .ok (.aload_n 0, 1) := by decide +kernel
theorem dX1_on_19 : decode cX1_on 19 = .ok (.getfield 19, 3) := by decide +kernel
theorem dX1_on_22 : decode cX1_on 22 = .ok (.invokevirtual 59, 3) := by decide +kernel
theorem dX1_on_25 : decode cX1_on 25 = .ok (.aload_n 0, 1) := by decide +kernel
theorem dX1_on_26 : decode cX1_on 26 = .ok (.getfield 10, 3) := by decide +kernel
theorem dX1_on_29 : decode cX1_on 29 = .ok (.getfield 147, 3) := by decide +kernel
theorem dX1_on_32 : decode cX1_on 32 = .ok (.ireturn, 1) := by decide +kernel
set_option maxRecDepth 20000 in
theorem ggX1_count_X0_countWords : GoodIn wsX1_count wsX0_countWords := goodIn_r _ [13, 14, 15, 16, 17, 12, 18, 19, 20, 21, 22, 23, 24, 25, 26, 45, 46, 47, 48, 49, 50, 51, 52, 53, 54, 55, 56] (by decide +kernel) (by decide +kernel)
set_option maxRecDepth 20000 in
theorem gX1_count_X0_countWords : GoodIn wsX1_count (wsV RX1 245 RX0 yX0_countWords wsX0_countWords) := goodIn_app (goodIn_of _ (by decide +kernel)) ggX1_count_X0_countWords
set_option maxRecDepth 20000 in
theorem ggX1_count_X1_refusalsOf : GoodIn wsX1_count wsX1_refusalsOf := goodIn_r _ [31, 32, 33, 34, 35, 36, 37, 38, 39, 40, 41, 42, 43, 44] (by decide +kernel) (by decide +kernel)
set_option maxRecDepth 20000 in
theorem gX1_count_X1_refusalsOf : GoodIn wsX1_count (wsV RX1 248 RX1 yX1_refusalsOf wsX1_refusalsOf) := goodIn_app (goodIn_of _ (by decide +kernel)) ggX1_count_X1_refusalsOf
theorem dX1_count_0 : decode cX1_count 0 = .ok (.iload_n 1, 1) := by decide +kernel
theorem dX1_count_1 : decode cX1_count 1 = .ok (.tableswitch 105 0 7 #[47, 55, 63, 71, 79, 87, 95, 100], 47) := by decide +kernel
theorem dX1_count_48 : decode cX1_count 48 = .ok (.aload_n 0, 1) := by decide +kernel
theorem dX1_count_49 : decode cX1_count 49 = .ok (.getfield 10, 3) := by decide +kernel
theorem dX1_count_52 : decode cX1_count 52 = .ok (.getfield 129, 3) := by decide +kernel
theorem dX1_count_55 : decode cX1_count 55 = .ok (.ireturn, 1) := by decide +kernel
theorem dX1_count_56 : decode cX1_count 56 = .ok (.aload_n 0, 1) := by decide +kernel
theorem dX1_count_57 : decode cX1_count 57 = .ok (.getfield 10, 3) := by decide +kernel
theorem dX1_count_60 : decode cX1_count 60 = .ok (.getfield 203, 3) := by decide +kernel
theorem dX1_count_63 : decode cX1_count 63 = .ok (.ireturn, 1) := by decide +kernel
theorem dX1_count_64 : decode cX1_count 64 = .ok (.aload_n 0, 1) := by decide +kernel
theorem dX1_count_65 : decode cX1_count 65 = .ok (.getfield 10, 3) := by decide +kernel
theorem dX1_count_68 : decode cX1_count 68 = .ok (.getfield 147, 3) := by decide +kernel
theorem dX1_count_71 : decode cX1_count 71 = .ok (.ireturn, 1) := by decide +kernel
theorem dX1_count_72 : decode cX1_count 72 = .ok (.aload_n 0, 1) := by decide +kernel
theorem dX1_count_73 : decode cX1_count 73 = .ok (.getfield 10, 3) := by decide +kernel
theorem dX1_count_76 : decode cX1_count 76 = .ok (.getfield 122, 3) := by decide +kernel
theorem dX1_count_79 : decode cX1_count 79 = .ok (.ireturn, 1) := by decide +kernel
theorem dX1_count_80 : decode cX1_count 80 = .ok (.aload_n 0, 1) := by decide +kernel
theorem dX1_count_81 : decode cX1_count 81 = .ok (.getfield 10, 3) := by decide +kernel
theorem dX1_count_84 : decode cX1_count 84 = .ok (.getfield 132, 3) := by decide +kernel
theorem dX1_count_87 : decode cX1_count 87 = .ok (.ireturn, 1) := by decide +kernel
theorem dX1_count_88 : decode cX1_count 88 = .ok (.aload_n 0, 1) := by decide +kernel
theorem dX1_count_89 : decode cX1_count 89 = .ok (.getfield 10, 3) := by decide +kernel
theorem dX1_count_92 : decode cX1_count 92 = .ok (.invokevirtual 245, 3) := by decide +kernel
theorem dX1_count_95 : decode cX1_count 95 = .ok (.ireturn, 1) := by decide +kernel
theorem dX1_count_96 : decode cX1_count 96 = .ok (.aload_n 0, 1) := by decide +kernel
theorem dX1_count_97 : decode cX1_count 97 = .ok (.getfield 37, 3) := by decide +kernel
theorem dX1_count_100 : decode cX1_count 100 = .ok (.ireturn, 1) := by decide +kernel
theorem dX1_count_101 : decode cX1_count 101 = .ok (.aload_n 0, 1) := by decide +kernel
theorem dX1_count_102 : decode cX1_count 102 = .ok (.getfield 30, 3) := by decide +kernel
theorem dX1_count_105 : decode cX1_count 105 = .ok (.ireturn, 1) := by decide +kernel
theorem dX1_count_106 : decode cX1_count 106 = .ok (.aload_n 0, 1) := by decide +kernel
theorem dX1_count_107 : decode cX1_count 107 = .ok (.iload_n 1, 1) := by decide +kernel
theorem dX1_count_108 : decode cX1_count 108 = .ok (.bipush 10, 2) := by decide +kernel
theorem dX1_count_110 : decode cX1_count 110 = .ok (.isub, 1) := by decide +kernel
theorem dX1_count_111 : decode cX1_count 111 = .ok (.invokevirtual 248, 3) := by decide +kernel
theorem dX1_count_114 : decode cX1_count 114 = .ok (.ireturn, 1) := by decide +kernel
theorem dX1_refuse_0 : decode cX1_refuse 0 = .ok (.iload_n 1, 1) := by decide +kernel
theorem dX1_refuse_1 : decode cX1_refuse 1 = .ok (.ifCond .ge 20, 3) := by decide +kernel
theorem dX1_refuse_4 : decode cX1_refuse 4 = .ok (.iload_n 1, 1) := by decide +kernel
theorem dX1_refuse_5 : decode cX1_refuse 5 = .ok (.bipush (-6), 2) := by decide +kernel
theorem dX1_refuse_7 : decode cX1_refuse 7 = .ok (.if_icmp .lt 14, 3) := by decide +kernel
theorem dX1_refuse_10 : decode cX1_refuse 10 = .ok (.aload_n 0, 1) := by decide +kernel
theorem dX1_refuse_11 : decode cX1_refuse 11 = .ok (.getfield 40, 3) := by decide +kernel
theorem dX1_refuse_14 : decode cX1_refuse 14 = .ok (.iload_n 1, 1) := by decide +kernel
theorem dX1_refuse_15 : decode cX1_refuse 15 = .ok (.ineg, 1) := by decide +kernel
theorem dX1_refuse_16 : decode cX1_refuse 16 = .ok (.dup2, 1) := by decide +kernel
theorem dX1_refuse_17 : decode cX1_refuse 17 = .ok (.iaload, 1) := by decide +kernel
theorem dX1_refuse_18 : decode cX1_refuse 18 = .ok (.iconst 1, 1) := by decide +kernel
theorem dX1_refuse_19 : decode cX1_refuse 19 = .ok (.iadd, 1) := by decide +kernel
