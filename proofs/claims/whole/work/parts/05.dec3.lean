theorem dX2_wordsOf_19 : decode cX2_wordsOf 19 = .ok (.iaload, 1) := by decide +kernel
theorem dX2_wordsOf_20 : decode cX2_wordsOf 20 = .ok (.ifCond .le 9, 3) := by decide +kernel
theorem dX2_wordsOf_23 : decode cX2_wordsOf 23 = .ok (.iconst 1, 1) := by decide +kernel
theorem dX2_wordsOf_24 : decode cX2_wordsOf 24 = .ok (.iload_n 3, 1) := by decide +kernel
theorem dX2_wordsOf_25 : decode cX2_wordsOf 25 = .ok (.ishl, 1) := by decide +kernel
theorem dX2_wordsOf_26 : decode cX2_wordsOf 26 = .ok (.goto 4, 3) := by decide +kernel
theorem dX2_wordsOf_29 : decode cX2_wordsOf 29 = .ok (.iconst 0, 1) := by decide +kernel
theorem dX2_wordsOf_30 : decode cX2_wordsOf 30 = .ok (.ior, 1) := by decide +kernel
theorem dX2_wordsOf_31 : decode cX2_wordsOf 31 = .ok (.istore_n 2, 1) := by decide +kernel
theorem dX2_wordsOf_32 : decode cX2_wordsOf 32 = .ok (.iinc 3 1, 3) := by decide +kernel
theorem dX2_wordsOf_35 : decode cX2_wordsOf 35 = .ok (.goto (-31), 3) := by decide +kernel
theorem dX2_wordsOf_38 : decode cX2_wordsOf 38 = .ok (.iload_n 2, 1) := by decide +kernel
theorem dX2_wordsOf_39 : decode cX2_wordsOf 39 = .ok (.ireturn, 1) := by decide +kernel
theorem dX2_allWords_0 : decode cX2_allWords 0 = .ok (.iconst 0, 1) := by decide +kernel
theorem dX2_allWords_1 : decode cX2_allWords 1 = .ok (.istore_n 1, 1) := by decide +kernel
theorem dX2_allWords_2 : decode cX2_allWords 2 = .ok (.iconst 0, 1) := by decide +kernel
theorem dX2_allWords_3 : decode cX2_allWords 3 = .ok (.istore_n 2, 1) := by decide +kernel
theorem dX2_allWords_4 : decode cX2_allWords 4 = .ok (.iload_n 2, 1) := by decide +kernel
theorem dX2_allWords_5 : decode cX2_allWords 5 = .ok (.aload_n 0, 1) := by decide +kernel
theorem dX2_allWords_6 : decode cX2_allWords 6 = .ok (.iconst 1, 1) := by decide +kernel
theorem dX2_allWords_7 : decode cX2_allWords 7 = .ok (.iaload, 1) := by decide +kernel
theorem dX2_allWords_8 : decode cX2_allWords 8 = .ok (.if_icmp .ge 20, 3) := by decide +kernel
theorem dX2_allWords_11 : decode cX2_allWords 11 = .ok (.iload_n 1, 1) := by decide +kernel
theorem dX2_allWords_12 : decode cX2_allWords 12 = .ok (.aload_n 0, 1) := by decide +kernel
theorem dX2_allWords_13 : decode cX2_allWords 13 = .ok (.iload_n 2, 1) := by decide +kernel
theorem dX2_allWords_14 : decode cX2_allWords 14 = .ok (.invokestatic 91, 3) := by decide +kernel
theorem dX2_allWords_17 : decode cX2_allWords 17 = .ok (.invokestatic 94, 3) := by decide +kernel
theorem dX2_allWords_20 : decode cX2_allWords 20 = .ok (.iadd, 1) := by decide +kernel
theorem dX2_allWords_21 : decode cX2_allWords 21 = .ok (.istore_n 1, 1) := by decide +kernel
theorem dX2_allWords_22 : decode cX2_allWords 22 = .ok (.iinc 2 1, 3) := by decide +kernel
theorem dX2_allWords_25 : decode cX2_allWords 25 = .ok (.goto (-21), 3) := by decide +kernel
theorem dX2_allWords_28 : decode cX2_allWords 28 = .ok (.iload_n 1, 1) := by decide +kernel
theorem dX2_allWords_29 : decode cX2_allWords 29 = .ok (.ireturn, 1) := by decide +kernel
theorem dX2_wholeOnes_0 : decode cX2_wholeOnes 0 = .ok (.iconst 0, 1) := by decide +kernel
theorem dX2_wholeOnes_1 : decode cX2_wholeOnes 1 = .ok (.istore_n 1, 1) := by decide +kernel
theorem dX2_wholeOnes_2 : decode cX2_wholeOnes 2 = .ok (.iconst 0, 1) := by decide +kernel
theorem dX2_wholeOnes_3 : decode cX2_wholeOnes 3 = .ok (.istore_n 2, 1) := by decide +kernel
theorem dX2_wholeOnes_4 : decode cX2_wholeOnes 4 = .ok (.iload_n 2, 1) := by decide +kernel
theorem dX2_wholeOnes_5 : decode cX2_wholeOnes 5 = .ok (.aload_n 0, 1) := by decide +kernel
theorem dX2_wholeOnes_6 : decode cX2_wholeOnes 6 = .ok (.iconst 1, 1) := by decide +kernel
theorem dX2_wholeOnes_7 : decode cX2_wholeOnes 7 = .ok (.iaload, 1) := by decide +kernel
theorem dX2_wholeOnes_8 : decode cX2_wholeOnes 8 = .ok (.if_icmp .ge 27, 3) := by decide +kernel
theorem dX2_wholeOnes_11 : decode cX2_wholeOnes 11 = .ok (.iload_n 1, 1) := by decide +kernel
theorem dX2_wholeOnes_12 : decode cX2_wholeOnes 12 = .ok (.aload_n 0, 1) := by decide +kernel
theorem dX2_wholeOnes_13 : decode cX2_wholeOnes 13 = .ok (.iload_n 2, 1) := by decide +kernel
theorem dX2_wholeOnes_14 : decode cX2_wholeOnes 14 = .ok (.invokestatic 91, 3) := by decide +kernel
theorem dX2_wholeOnes_17 : decode cX2_wholeOnes 17 = .ok (.bipush 63, 2) := by decide +kernel
theorem dX2_wholeOnes_19 : decode cX2_wholeOnes 19 = .ok (.if_icmp .ne 7, 3) := by decide +kernel
theorem dX2_wholeOnes_22 : decode cX2_wholeOnes 22 = .ok (.iconst 1, 1) := by decide +kernel
theorem dX2_wholeOnes_23 : decode cX2_wholeOnes 23 = .ok (.goto 4, 3) := by decide +kernel
theorem dX2_wholeOnes_26 : decode cX2_wholeOnes 26 = .ok (.iconst 0, 1) := by decide +kernel
theorem dX2_wholeOnes_27 : decode cX2_wholeOnes 27 = .ok (.iadd, 1) := by decide +kernel
theorem dX2_wholeOnes_28 : decode cX2_wholeOnes 28 = .ok (.istore_n 1, 1) := by decide +kernel
theorem dX2_wholeOnes_29 : decode cX2_wholeOnes 29 = .ok (.iinc 2 1, 3) := by decide +kernel
theorem dX2_wholeOnes_32 : decode cX2_wholeOnes 32 = .ok (.goto (-28), 3) := by decide +kernel
theorem dX2_wholeOnes_35 : decode cX2_wholeOnes 35 = .ok (.iload_n 1, 1) := by decide +kernel
theorem dX2_wholeOnes_36 : decode cX2_wholeOnes 36 = .ok (.ireturn, 1) := by decide +kernel
theorem dX2_sentIn_0 : decode cX2_sentIn 0 = .ok (.iconst 0, 1) := by decide +kernel
theorem dX2_sentIn_1 : decode cX2_sentIn 1 = .ok (.istore_n 1, 1) := by decide +kernel
theorem dX2_sentIn_2 : decode cX2_sentIn 2 = .ok (.iconst 0, 1) := by decide +kernel
theorem dX2_sentIn_3 : decode cX2_sentIn 3 = .ok (.istore_n 2, 1) := by decide +kernel
theorem dX2_sentIn_4 : decode cX2_sentIn 4 = .ok (.iload_n 2, 1) := by decide +kernel
theorem dX2_sentIn_5 : decode cX2_sentIn 5 = .ok (.aload_n 0, 1) := by decide +kernel
theorem dX2_sentIn_6 : decode cX2_sentIn 6 = .ok (.iconst 0, 1) := by decide +kernel
theorem dX2_sentIn_7 : decode cX2_sentIn 7 = .ok (.iaload, 1) := by decide +kernel
theorem dX2_sentIn_8 : decode cX2_sentIn 8 = .ok (.if_icmp .ge 21, 3) := by decide +kernel
theorem dX2_sentIn_11 : decode cX2_sentIn 11 = .ok (.iload_n 1, 1) := by decide +kernel
theorem dX2_sentIn_12 : decode cX2_sentIn 12 = .ok (.aload_n 0, 1) := by decide +kernel
theorem dX2_sentIn_13 : decode cX2_sentIn 13 = .ok (.iload_n 2, 1) := by decide +kernel
theorem dX2_sentIn_14 : decode cX2_sentIn 14 = .ok (.iconst 3, 1) := by decide +kernel
theorem dX2_sentIn_15 : decode cX2_sentIn 15 = .ok (.invokestatic 44, 3) := by decide +kernel
theorem dX2_sentIn_18 : decode cX2_sentIn 18 = .ok (.iaload, 1) := by decide +kernel
theorem dX2_sentIn_19 : decode cX2_sentIn 19 = .ok (.iload_n 2, 1) := by decide +kernel
theorem dX2_sentIn_20 : decode cX2_sentIn 20 = .ok (.ishl, 1) := by decide +kernel
theorem dX2_sentIn_21 : decode cX2_sentIn 21 = .ok (.ior, 1) := by decide +kernel
theorem dX2_sentIn_22 : decode cX2_sentIn 22 = .ok (.istore_n 1, 1) := by decide +kernel
theorem dX2_sentIn_23 : decode cX2_sentIn 23 = .ok (.iinc 2 1, 3) := by decide +kernel
theorem dX2_sentIn_26 : decode cX2_sentIn 26 = .ok (.goto (-22), 3) := by decide +kernel
theorem dX2_sentIn_29 : decode cX2_sentIn 29 = .ok (.iload_n 1, 1) := by decide +kernel
theorem dX2_sentIn_30 : decode cX2_sentIn 30 = .ok (.ireturn, 1) := by decide +kernel
theorem dX2_letter_0 : decode cX2_letter 0 = .ok (.iload_n 1, 1) := by decide +kernel
theorem dX2_letter_1 : decode cX2_letter 1 = .ok (.ifCond .ge 10, 3) := by decide +kernel
theorem dX2_letter_4 : decode cX2_letter 4 = .ok (.aload_n 0, 1) := by decide +kernel
theorem dX2_letter_5 : decode cX2_letter 5 = .ok (.bipush (-4), 2) := by decide +kernel
theorem dX2_letter_7 : decode cX2_letter 7 = .ok (.invokevirtual 36, 3) := by decide +kernel
theorem dX2_letter_10 : decode cX2_letter 10 = .ok (.ireturn, 1) := by decide +kernel
theorem dX2_letter_11 : decode cX2_letter 11 = .ok (.iload_n 1, 1) := by decide +kernel
theorem dX2_letter_12 : decode cX2_letter 12 = .ok (.sipush 255, 3) := by decide +kernel
theorem dX2_letter_15 : decode cX2_letter 15 = .ok (.if_icmp .gt 12, 3) := by decide +kernel
theorem dX2_letter_18 : decode cX2_letter 18 = .ok (.aload_n 0, 1) := by decide +kernel
theorem dX2_letter_19 : decode cX2_letter 19 = .ok (.getfield 97, 3) := by decide +kernel
theorem dX2_letter_22 : decode cX2_letter 22 = .ok (.bipush 96, 2) := by decide +kernel
theorem dX2_letter_24 : decode cX2_letter 24 = .ok (.if_icmp .ne 10, 3) := by decide +kernel
theorem dX2_letter_27 : decode cX2_letter 27 = .ok (.aload_n 0, 1) := by decide +kernel
theorem dX2_letter_28 : decode cX2_letter 28 = .ok (.bipush (-6), 2) := by decide +kernel
theorem dX2_letter_30 : decode cX2_letter 30 = .ok (.invokevirtual 36, 3) := by decide +kernel
theorem dX2_letter_33 : decode cX2_letter 33 = .ok (.ireturn, 1) := by decide +kernel
theorem dX2_letter_34 : decode cX2_letter 34 = .ok (.aload_n 0, 1) := by decide +kernel
theorem dX2_letter_35 : decode cX2_letter 35 = .ok (.getfield 22, 3) := by decide +kernel
theorem dX2_letter_38 : decode cX2_letter 38 = .ok (.aload_n 0, 1) := by decide +kernel
theorem dX2_letter_39 : decode cX2_letter 39 = .ok (.getfield 97, 3) := by decide +kernel
theorem dX2_letter_42 : decode cX2_letter 42 = .ok (.iload_n 1, 1) := by decide +kernel
theorem dX2_letter_43 : decode cX2_letter 43 = .ok (.iastore, 1) := by decide +kernel
theorem dX2_letter_44 : decode cX2_letter 44 = .ok (.aload_n 0, 1) := by decide +kernel
theorem dX2_letter_45 : decode cX2_letter 45 = .ok (.dup, 1) := by decide +kernel
theorem dX2_letter_46 : decode cX2_letter 46 = .ok (.getfield 97, 3) := by decide +kernel
theorem dX2_letter_49 : decode cX2_letter 49 = .ok (.iconst 1, 1) := by decide +kernel
theorem dX2_letter_50 : decode cX2_letter 50 = .ok (.iadd, 1) := by decide +kernel
theorem dX2_letter_51 : decode cX2_letter 51 = .ok (.putfield 97, 3) := by decide +kernel
theorem dX2_letter_54 : decode cX2_letter 54 = .ok (.aload_n 0, 1) := by decide +kernel
theorem dX2_letter_55 : decode cX2_letter 55 = .ok (.getfield 97, 3) := by decide +kernel
theorem dX2_letter_58 : decode cX2_letter 58 = .ok (.ireturn, 1) := by decide +kernel
theorem dX2_here_0 : decode cX2_here 0 = .ok (.aload_n 0, 1) := by decide +kernel
theorem dX2_here_1 : decode cX2_here 1 = .ok (.getfield 101, 3) := by decide +kernel
theorem dX2_here_4 : decode cX2_here 4 = .ok (.aload_n 0, 1) := by decide +kernel
theorem dX2_here_5 : decode cX2_here 5 = .ok (.getfield 97, 3) := by decide +kernel
theorem dX2_here_8 : decode cX2_here 8 = .ok (.if_icmp .ge 15, 3) := by decide +kernel
theorem dX2_here_11 : decode cX2_here 11 = .ok (.aload_n 0, 1) := by decide +kernel
theorem dX2_here_12 : decode cX2_here 12 = .ok (.getfield 22, 3) := by decide +kernel
theorem dX2_here_15 : decode cX2_here 15 = .ok (.aload_n 0, 1) := by decide +kernel
theorem dX2_here_16 : decode cX2_here 16 = .ok (.getfield 101, 3) := by decide +kernel
theorem dX2_here_19 : decode cX2_here 19 = .ok (.iaload, 1) := by decide +kernel
theorem dX2_here_20 : decode cX2_here 20 = .ok (.goto 4, 3) := by decide +kernel
theorem dX2_here_23 : decode cX2_here 23 = .ok (.iconst (-1), 1) := by decide +kernel
theorem dX2_here_24 : decode cX2_here 24 = .ok (.ireturn, 1) := by decide +kernel
theorem dX2_readsNumber_0 : decode cX2_readsNumber 0 = .ok (.aload_n 0, 1) := by decide +kernel
theorem dX2_readsNumber_1 : decode cX2_readsNumber 1 = .ok (.getfield 31, 3) := by decide +kernel
theorem dX2_readsNumber_4 : decode cX2_readsNumber 4 = .ok (.iload_n 1, 1) := by decide +kernel
theorem dX2_readsNumber_5 : decode cX2_readsNumber 5 = .ok (.iconst 0, 1) := by decide +kernel
theorem dX2_readsNumber_6 : decode cX2_readsNumber 6 = .ok (.iastore, 1) := by decide +kernel
theorem dX2_readsNumber_7 : decode cX2_readsNumber 7 = .ok (.iconst 0, 1) := by decide +kernel
theorem dX2_readsNumber_8 : decode cX2_readsNumber 8 = .ok (.istore_n 3, 1) := by decide +kernel
theorem dX2_readsNumber_9 : decode cX2_readsNumber 9 = .ok (.iload_n 3, 1) := by decide +kernel
theorem dX2_readsNumber_10 : decode cX2_readsNumber 10 = .ok (.iload_n 2, 1) := by decide +kernel
theorem dX2_readsNumber_11 : decode cX2_readsNumber 11 = .ok (.if_icmp .ge 58, 3) := by decide +kernel
theorem dX2_readsNumber_14 : decode cX2_readsNumber 14 = .ok (.aload_n 0, 1) := by decide +kernel
theorem dX2_readsNumber_15 : decode cX2_readsNumber 15 = .ok (.invokevirtual 104, 3) := by decide +kernel
theorem dX2_readsNumber_18 : decode cX2_readsNumber 18 = .ok (.bipush 48, 2) := by decide +kernel
theorem dX2_readsNumber_20 : decode cX2_readsNumber 20 = .ok (.bipush 57, 2) := by decide +kernel
theorem dX2_readsNumber_22 : decode cX2_readsNumber 22 = .ok (.invokestatic 40, 3) := by decide +kernel
theorem dX2_readsNumber_25 : decode cX2_readsNumber 25 = .ok (.ifCond .ne 5, 3) := by decide +kernel
theorem dX2_readsNumber_28 : decode cX2_readsNumber 28 = .ok (.iconst 0, 1) := by decide +kernel
theorem dX2_readsNumber_29 : decode cX2_readsNumber 29 = .ok (.ireturn, 1) := by decide +kernel
theorem dX2_readsNumber_30 : decode cX2_readsNumber 30 = .ok (.aload_n 0, 1) := by decide +kernel
theorem dX2_readsNumber_31 : decode cX2_readsNumber 31 = .ok (.getfield 31, 3) := by decide +kernel
theorem dX2_readsNumber_34 : decode cX2_readsNumber 34 = .ok (.iload_n 1, 1) := by decide +kernel
theorem dX2_readsNumber_35 : decode cX2_readsNumber 35 = .ok (.bipush 10, 2) := by decide +kernel
theorem dX2_readsNumber_37 : decode cX2_readsNumber 37 = .ok (.aload_n 0, 1) := by decide +kernel
theorem dX2_readsNumber_38 : decode cX2_readsNumber 38 = .ok (.getfield 31, 3) := by decide +kernel
theorem dX2_readsNumber_41 : decode cX2_readsNumber 41 = .ok (.iload_n 1, 1) := by decide +kernel
theorem dX2_readsNumber_42 : decode cX2_readsNumber 42 = .ok (.iaload, 1) := by decide +kernel
theorem dX2_readsNumber_43 : decode cX2_readsNumber 43 = .ok (.imul, 1) := by decide +kernel
theorem dX2_readsNumber_44 : decode cX2_readsNumber 44 = .ok (.aload_n 0, 1) := by decide +kernel
theorem dX2_readsNumber_45 : decode cX2_readsNumber 45 = .ok (.invokevirtual 104, 3) := by decide +kernel
theorem dX2_readsNumber_48 : decode cX2_readsNumber 48 = .ok (.iadd, 1) := by decide +kernel
theorem dX2_readsNumber_49 : decode cX2_readsNumber 49 = .ok (.bipush 48, 2) := by decide +kernel
theorem dX2_readsNumber_51 : decode cX2_readsNumber 51 = .ok (.isub, 1) := by decide +kernel
theorem dX2_readsNumber_52 : decode cX2_readsNumber 52 = .ok (.iastore, 1) := by decide +kernel
theorem dX2_readsNumber_53 : decode cX2_readsNumber 53 = .ok (.aload_n 0, 1) := by decide +kernel
theorem dX2_readsNumber_54 : decode cX2_readsNumber 54 = .ok (.dup, 1) := by decide +kernel
theorem dX2_readsNumber_55 : decode cX2_readsNumber 55 = .ok (.getfield 101, 3) := by decide +kernel
theorem dX2_readsNumber_58 : decode cX2_readsNumber 58 = .ok (.iconst 1, 1) := by decide +kernel
theorem dX2_readsNumber_59 : decode cX2_readsNumber 59 = .ok (.iadd, 1) := by decide +kernel
theorem dX2_readsNumber_60 : decode cX2_readsNumber 60 = .ok (.putfield 101, 3) := by decide +kernel
theorem dX2_readsNumber_63 : decode cX2_readsNumber 63 = .ok (.iinc 3 1, 3) := by decide +kernel
theorem dX2_readsNumber_66 : decode cX2_readsNumber 66 = .ok (.goto (-57), 3) := by decide +kernel
theorem dX2_readsNumber_69 : decode cX2_readsNumber 69 = .ok (.iconst 1, 1) := by decide +kernel
theorem dX2_readsNumber_70 : decode cX2_readsNumber 70 = .ok (.ireturn, 1) := by decide +kernel
theorem dX2_kindBy_0 : decode cX2_kindBy 0 = .ok (.iload_n 0, 1) := by decide +kernel
theorem dX2_kindBy_1 : decode cX2_kindBy 1 = .ok (.tableswitch 91 100 115 #[85, 91, 91, 83, 91, 91, 91, 91, 89, 91, 91, 91, 91, 87, 79, 81], 79) := by decide +kernel
theorem dX2_kindBy_80 : decode cX2_kindBy 80 = .ok (.iconst 0, 1) := by decide +kernel
theorem dX2_kindBy_81 : decode cX2_kindBy 81 = .ok (.ireturn, 1) := by decide +kernel
theorem dX2_kindBy_82 : decode cX2_kindBy 82 = .ok (.iconst 1, 1) := by decide +kernel
theorem dX2_kindBy_83 : decode cX2_kindBy 83 = .ok (.ireturn, 1) := by decide +kernel
theorem dX2_kindBy_84 : decode cX2_kindBy 84 = .ok (.iconst 2, 1) := by decide +kernel
theorem dX2_kindBy_85 : decode cX2_kindBy 85 = .ok (.ireturn, 1) := by decide +kernel
theorem dX2_kindBy_86 : decode cX2_kindBy 86 = .ok (.iconst 3, 1) := by decide +kernel
theorem dX2_kindBy_87 : decode cX2_kindBy 87 = .ok (.ireturn, 1) := by decide +kernel
theorem dX2_kindBy_88 : decode cX2_kindBy 88 = .ok (.iconst 4, 1) := by decide +kernel
theorem dX2_kindBy_89 : decode cX2_kindBy 89 = .ok (.ireturn, 1) := by decide +kernel
theorem dX2_kindBy_90 : decode cX2_kindBy 90 = .ok (.iconst 5, 1) := by decide +kernel
theorem dX2_kindBy_91 : decode cX2_kindBy 91 = .ok (.ireturn, 1) := by decide +kernel
theorem dX2_kindBy_92 : decode cX2_kindBy 92 = .ok (.bipush (-9), 2) := by decide +kernel
theorem dX2_kindBy_94 : decode cX2_kindBy 94 = .ok (.ireturn, 1) := by decide +kernel
theorem dX2_readsKind_0 : decode cX2_readsKind 0 = .ok (.aload_n 0, 1) := by decide +kernel
theorem dX2_readsKind_1 : decode cX2_readsKind 1 = .ok (.getfield 31, 3) := by decide +kernel
theorem dX2_readsKind_4 : decode cX2_readsKind 4 = .ok (.iconst 0, 1) := by decide +kernel
theorem dX2_readsKind_5 : decode cX2_readsKind 5 = .ok (.aload_n 0, 1) := by decide +kernel
theorem dX2_readsKind_6 : decode cX2_readsKind 6 = .ok (.invokevirtual 104, 3) := by decide +kernel
theorem dX2_readsKind_9 : decode cX2_readsKind 9 = .ok (.invokestatic 108, 3) := by decide +kernel
theorem dX2_readsKind_12 : decode cX2_readsKind 12 = .ok (.iastore, 1) := by decide +kernel
theorem dX2_readsKind_13 : decode cX2_readsKind 13 = .ok (.aload_n 0, 1) := by decide +kernel
theorem dX2_readsKind_14 : decode cX2_readsKind 14 = .ok (.dup, 1) := by decide +kernel
theorem dX2_readsKind_15 : decode cX2_readsKind 15 = .ok (.getfield 101, 3) := by decide +kernel
theorem dX2_readsKind_18 : decode cX2_readsKind 18 = .ok (.aload_n 0, 1) := by decide +kernel
theorem dX2_readsKind_19 : decode cX2_readsKind 19 = .ok (.getfield 31, 3) := by decide +kernel
theorem dX2_readsKind_22 : decode cX2_readsKind 22 = .ok (.iconst 0, 1) := by decide +kernel
theorem dX2_readsKind_23 : decode cX2_readsKind 23 = .ok (.iaload, 1) := by decide +kernel
theorem dX2_readsKind_24 : decode cX2_readsKind 24 = .ok (.ifCond .ge 7, 3) := by decide +kernel
theorem dX2_readsKind_27 : decode cX2_readsKind 27 = .ok (.iconst 0, 1) := by decide +kernel
theorem dX2_readsKind_28 : decode cX2_readsKind 28 = .ok (.goto 4, 3) := by decide +kernel
theorem dX2_readsKind_31 : decode cX2_readsKind 31 = .ok (.iconst 1, 1) := by decide +kernel
theorem dX2_readsKind_32 : decode cX2_readsKind 32 = .ok (.iadd, 1) := by decide +kernel
theorem dX2_readsKind_33 : decode cX2_readsKind 33 = .ok (.putfield 101, 3) := by decide +kernel
theorem dX2_readsKind_36 : decode cX2_readsKind 36 = .ok (.aload_n 0, 1) := by decide +kernel
theorem dX2_readsKind_37 : decode cX2_readsKind 37 = .ok (.getfield 31, 3) := by decide +kernel
theorem dX2_readsKind_40 : decode cX2_readsKind 40 = .ok (.iconst 0, 1) := by decide +kernel
theorem dX2_readsKind_41 : decode cX2_readsKind 41 = .ok (.iaload, 1) := by decide +kernel
theorem dX2_readsKind_42 : decode cX2_readsKind 42 = .ok (.ifCond .lt 7, 3) := by decide +kernel
theorem dX2_readsKind_45 : decode cX2_readsKind 45 = .ok (.iconst 1, 1) := by decide +kernel
theorem dX2_readsKind_46 : decode cX2_readsKind 46 = .ok (.goto 4, 3) := by decide +kernel
theorem dX2_readsKind_49 : decode cX2_readsKind 49 = .ok (.iconst 0, 1) := by decide +kernel
theorem dX2_readsKind_50 : decode cX2_readsKind 50 = .ok (.ireturn, 1) := by decide +kernel
theorem dX2_readsStatement_0 : decode cX2_readsStatement 0 = .ok (.aload_n 0, 1) := by decide +kernel
theorem dX2_readsStatement_1 : decode cX2_readsStatement 1 = .ok (.invokevirtual 104, 3) := by decide +kernel
theorem dX2_readsStatement_4 : decode cX2_readsStatement 4 = .ok (.istore_n 1, 1) := by decide +kernel
theorem dX2_readsStatement_5 : decode cX2_readsStatement 5 = .ok (.aload_n 0, 1) := by decide +kernel
theorem dX2_readsStatement_6 : decode cX2_readsStatement 6 = .ok (.dup, 1) := by decide +kernel
theorem dX2_readsStatement_7 : decode cX2_readsStatement 7 = .ok (.getfield 101, 3) := by decide +kernel
theorem dX2_readsStatement_10 : decode cX2_readsStatement 10 = .ok (.iconst 1, 1) := by decide +kernel
theorem dX2_readsStatement_11 : decode cX2_readsStatement 11 = .ok (.iadd, 1) := by decide +kernel
theorem dX2_readsStatement_12 : decode cX2_readsStatement 12 = .ok (.putfield 101, 3) := by decide +kernel
theorem dX2_readsStatement_15 : decode cX2_readsStatement 15 = .ok (.iload_n 1, 1) := by decide +kernel
theorem dX2_readsStatement_16 : decode cX2_readsStatement 16 = .ok (.tableswitch 195 98 119 #[165, 195, 195, 195, 195, 175, 195, 195, 195, 195, 195, 195, 185, 195, 138, 195, 104, 165, 195, 195, 195, 165], 104) := by decide +kernel
theorem dX2_readsStatement_120 : decode cX2_readsStatement 120 = .ok (.aload_n 0, 1) := by decide +kernel
theorem dX2_readsStatement_121 : decode cX2_readsStatement 121 = .ok (.invokevirtual 111, 3) := by decide +kernel
theorem dX2_readsStatement_124 : decode cX2_readsStatement 124 = .ok (.ifCond .eq 25, 3) := by decide +kernel
theorem dX2_readsStatement_127 : decode cX2_readsStatement 127 = .ok (.aload_n 0, 1) := by decide +kernel
theorem dX2_readsStatement_128 : decode cX2_readsStatement 128 = .ok (.iconst 1, 1) := by decide +kernel
theorem dX2_readsStatement_129 : decode cX2_readsStatement 129 = .ok (.iconst 1, 1) := by decide +kernel
theorem dX2_readsStatement_130 : decode cX2_readsStatement 130 = .ok (.invokevirtual 115, 3) := by decide +kernel
theorem dX2_readsStatement_133 : decode cX2_readsStatement 133 = .ok (.ifCond .eq 16, 3) := by decide +kernel
theorem dX2_readsStatement_136 : decode cX2_readsStatement 136 = .ok (.aload_n 0, 1) := by decide +kernel
theorem dX2_readsStatement_137 : decode cX2_readsStatement 137 = .ok (.iconst 2, 1) := by decide +kernel
theorem dX2_readsStatement_138 : decode cX2_readsStatement 138 = .ok (.iconst 1, 1) := by decide +kernel
theorem dX2_readsStatement_139 : decode cX2_readsStatement 139 = .ok (.invokevirtual 115, 3) := by decide +kernel
theorem dX2_readsStatement_142 : decode cX2_readsStatement 142 = .ok (.ifCond .eq 7, 3) := by decide +kernel
theorem dX2_readsStatement_145 : decode cX2_readsStatement 145 = .ok (.iconst 1, 1) := by decide +kernel
theorem dX2_readsStatement_146 : decode cX2_readsStatement 146 = .ok (.goto 4, 3) := by decide +kernel
theorem dX2_readsStatement_149 : decode cX2_readsStatement 149 = .ok (.iconst 0, 1) := by decide +kernel
theorem dX2_readsStatement_150 : decode cX2_readsStatement 150 = .ok (.istore_n 2, 1) := by decide +kernel
theorem dX2_readsStatement_151 : decode cX2_readsStatement 151 = .ok (.goto 72, 3) := by decide +kernel
theorem dX2_readsStatement_154 : decode cX2_readsStatement 154 = .ok (.aload_n 0, 1) := by decide +kernel
theorem dX2_readsStatement_155 : decode cX2_readsStatement 155 = .ok (.iconst 0, 1) := by decide +kernel
theorem dX2_readsStatement_156 : decode cX2_readsStatement 156 = .ok (.iconst 2, 1) := by decide +kernel
theorem dX2_readsStatement_157 : decode cX2_readsStatement 157 = .ok (.invokevirtual 115, 3) := by decide +kernel
theorem dX2_readsStatement_160 : decode cX2_readsStatement 160 = .ok (.ifCond .eq 16, 3) := by decide +kernel
theorem dX2_readsStatement_163 : decode cX2_readsStatement 163 = .ok (.aload_n 0, 1) := by decide +kernel
theorem dX2_readsStatement_164 : decode cX2_readsStatement 164 = .ok (.iconst 1, 1) := by decide +kernel
theorem dX2_readsStatement_165 : decode cX2_readsStatement 165 = .ok (.iconst 1, 1) := by decide +kernel
theorem dX2_readsStatement_166 : decode cX2_readsStatement 166 = .ok (.invokevirtual 115, 3) := by decide +kernel
theorem dX2_readsStatement_169 : decode cX2_readsStatement 169 = .ok (.ifCond .eq 7, 3) := by decide +kernel
theorem dX2_readsStatement_172 : decode cX2_readsStatement 172 = .ok (.iconst 1, 1) := by decide +kernel
theorem dX2_readsStatement_173 : decode cX2_readsStatement 173 = .ok (.goto 4, 3) := by decide +kernel
theorem dX2_readsStatement_176 : decode cX2_readsStatement 176 = .ok (.iconst 0, 1) := by decide +kernel
theorem dX2_readsStatement_177 : decode cX2_readsStatement 177 = .ok (.istore_n 2, 1) := by decide +kernel
theorem dX2_readsStatement_178 : decode cX2_readsStatement 178 = .ok (.goto 45, 3) := by decide +kernel
theorem dX2_readsStatement_181 : decode cX2_readsStatement 181 = .ok (.aload_n 0, 1) := by decide +kernel
theorem dX2_readsStatement_182 : decode cX2_readsStatement 182 = .ok (.iconst 0, 1) := by decide +kernel
theorem dX2_readsStatement_183 : decode cX2_readsStatement 183 = .ok (.iconst 1, 1) := by decide +kernel
theorem dX2_readsStatement_184 : decode cX2_readsStatement 184 = .ok (.invokevirtual 115, 3) := by decide +kernel
theorem dX2_readsStatement_187 : decode cX2_readsStatement 187 = .ok (.istore_n 2, 1) := by decide +kernel
theorem dX2_readsStatement_188 : decode cX2_readsStatement 188 = .ok (.goto 35, 3) := by decide +kernel
theorem dX2_readsStatement_191 : decode cX2_readsStatement 191 = .ok (.aload_n 0, 1) := by decide +kernel
theorem dX2_readsStatement_192 : decode cX2_readsStatement 192 = .ok (.iconst 0, 1) := by decide +kernel
theorem dX2_readsStatement_193 : decode cX2_readsStatement 193 = .ok (.iconst 3, 1) := by decide +kernel
theorem dX2_readsStatement_194 : decode cX2_readsStatement 194 = .ok (.invokevirtual 115, 3) := by decide +kernel
theorem dX2_readsStatement_197 : decode cX2_readsStatement 197 = .ok (.istore_n 2, 1) := by decide +kernel
theorem dX2_readsStatement_198 : decode cX2_readsStatement 198 = .ok (.goto 25, 3) := by decide +kernel
theorem dX2_readsStatement_201 : decode cX2_readsStatement 201 = .ok (.aload_n 0, 1) := by decide +kernel
theorem dX2_readsStatement_202 : decode cX2_readsStatement 202 = .ok (.iconst 0, 1) := by decide +kernel
theorem dX2_readsStatement_203 : decode cX2_readsStatement 203 = .ok (.iconst 2, 1) := by decide +kernel
theorem dX2_readsStatement_204 : decode cX2_readsStatement 204 = .ok (.invokevirtual 115, 3) := by decide +kernel
theorem dX2_readsStatement_207 : decode cX2_readsStatement 207 = .ok (.istore_n 2, 1) := by decide +kernel
theorem dX2_readsStatement_208 : decode cX2_readsStatement 208 = .ok (.goto 15, 3) := by decide +kernel
theorem dX2_readsStatement_211 : decode cX2_readsStatement 211 = .ok (.aload_n 0, 1) := by decide +kernel
theorem dX2_readsStatement_212 : decode cX2_readsStatement 212 = .ok (.dup, 1) := by decide +kernel
theorem dX2_readsStatement_213 : decode cX2_readsStatement 213 = .ok (.getfield 101, 3) := by decide +kernel
theorem dX2_readsStatement_216 : decode cX2_readsStatement 216 = .ok (.iconst 1, 1) := by decide +kernel
theorem dX2_readsStatement_217 : decode cX2_readsStatement 217 = .ok (.isub, 1) := by decide +kernel
theorem dX2_readsStatement_218 : decode cX2_readsStatement 218 = .ok (.putfield 101, 3) := by decide +kernel
theorem dX2_readsStatement_221 : decode cX2_readsStatement 221 = .ok (.iconst 0, 1) := by decide +kernel
theorem dX2_readsStatement_222 : decode cX2_readsStatement 222 = .ok (.ireturn, 1) := by decide +kernel
theorem dX2_readsStatement_223 : decode cX2_readsStatement 223 = .ok (.iload_n 2, 1) := by decide +kernel
theorem dX2_readsStatement_224 : decode cX2_readsStatement 224 = .ok (.ifCond .eq 12, 3) := by decide +kernel
theorem dX2_readsStatement_227 : decode cX2_readsStatement 227 = .ok (.aload_n 0, 1) := by decide +kernel
theorem dX2_readsStatement_228 : decode cX2_readsStatement 228 = .ok (.invokevirtual 104, 3) := by decide +kernel
theorem dX2_readsStatement_231 : decode cX2_readsStatement 231 = .ok (.bipush 59, 2) := by decide +kernel
theorem dX2_readsStatement_233 : decode cX2_readsStatement 233 = .ok (.if_icmp .eq 5, 3) := by decide +kernel
theorem dX2_readsStatement_236 : decode cX2_readsStatement 236 = .ok (.iconst 0, 1) := by decide +kernel
theorem dX2_readsStatement_237 : decode cX2_readsStatement 237 = .ok (.ireturn, 1) := by decide +kernel
theorem dX2_readsStatement_238 : decode cX2_readsStatement 238 = .ok (.aload_n 0, 1) := by decide +kernel
theorem dX2_readsStatement_239 : decode cX2_readsStatement 239 = .ok (.dup, 1) := by decide +kernel
theorem dX2_readsStatement_240 : decode cX2_readsStatement 240 = .ok (.getfield 101, 3) := by decide +kernel
theorem dX2_readsStatement_243 : decode cX2_readsStatement 243 = .ok (.iconst 1, 1) := by decide +kernel
theorem dX2_readsStatement_244 : decode cX2_readsStatement 244 = .ok (.iadd, 1) := by decide +kernel
theorem dX2_readsStatement_245 : decode cX2_readsStatement 245 = .ok (.putfield 101, 3) := by decide +kernel
theorem dX2_readsStatement_248 : decode cX2_readsStatement 248 = .ok (.iconst 1, 1) := by decide +kernel
theorem dX2_readsStatement_249 : decode cX2_readsStatement 249 = .ok (.ireturn, 1) := by decide +kernel
theorem dX2_addsRocket_0 : decode cX2_addsRocket 0 = .ok (.aload_n 0, 1) := by decide +kernel
theorem dX2_addsRocket_1 : decode cX2_addsRocket 1 = .ok (.getfield 31, 3) := by decide +kernel
theorem dX2_addsRocket_4 : decode cX2_addsRocket 4 = .ok (.iconst 2, 1) := by decide +kernel
theorem dX2_addsRocket_5 : decode cX2_addsRocket 5 = .ok (.iaload, 1) := by decide +kernel
theorem dX2_addsRocket_6 : decode cX2_addsRocket 6 = .ok (.bipush 6, 2) := by decide +kernel
theorem dX2_addsRocket_8 : decode cX2_addsRocket 8 = .ok (.if_icmp .ge 14, 3) := by decide +kernel
theorem dX2_addsRocket_11 : decode cX2_addsRocket 11 = .ok (.aload_n 0, 1) := by decide +kernel
theorem dX2_addsRocket_12 : decode cX2_addsRocket 12 = .ok (.getfield 9, 3) := by decide +kernel
theorem dX2_addsRocket_15 : decode cX2_addsRocket 15 = .ok (.iconst 0, 1) := by decide +kernel
theorem dX2_addsRocket_16 : decode cX2_addsRocket 16 = .ok (.iaload, 1) := by decide +kernel
theorem dX2_addsRocket_17 : decode cX2_addsRocket 17 = .ok (.bipush 9, 2) := by decide +kernel
theorem dX2_addsRocket_19 : decode cX2_addsRocket 19 = .ok (.if_icmp .ne 5, 3) := by decide +kernel
theorem dX2_addsRocket_22 : decode cX2_addsRocket 22 = .ok (.iconst 0, 1) := by decide +kernel
theorem dX2_addsRocket_23 : decode cX2_addsRocket 23 = .ok (.ireturn, 1) := by decide +kernel
theorem dX2_addsRocket_24 : decode cX2_addsRocket 24 = .ok (.iconst 0, 1) := by decide +kernel
theorem dX2_addsRocket_25 : decode cX2_addsRocket 25 = .ok (.istore_n 1, 1) := by decide +kernel
theorem dX2_addsRocket_26 : decode cX2_addsRocket 26 = .ok (.iload_n 1, 1) := by decide +kernel
theorem dX2_addsRocket_27 : decode cX2_addsRocket 27 = .ok (.iconst 3, 1) := by decide +kernel
theorem dX2_addsRocket_28 : decode cX2_addsRocket 28 = .ok (.if_icmp .ge 30, 3) := by decide +kernel
theorem dX2_addsRocket_31 : decode cX2_addsRocket 31 = .ok (.aload_n 0, 1) := by decide +kernel
theorem dX2_addsRocket_32 : decode cX2_addsRocket 32 = .ok (.getfield 9, 3) := by decide +kernel
theorem dX2_addsRocket_35 : decode cX2_addsRocket 35 = .ok (.aload_n 0, 1) := by decide +kernel
theorem dX2_addsRocket_36 : decode cX2_addsRocket 36 = .ok (.getfield 9, 3) := by decide +kernel
theorem dX2_addsRocket_39 : decode cX2_addsRocket 39 = .ok (.iconst 0, 1) := by decide +kernel
theorem dX2_addsRocket_40 : decode cX2_addsRocket 40 = .ok (.iaload, 1) := by decide +kernel
theorem dX2_addsRocket_41 : decode cX2_addsRocket 41 = .ok (.iload_n 1, 1) := by decide +kernel
theorem dX2_addsRocket_42 : decode cX2_addsRocket 42 = .ok (.invokestatic 44, 3) := by decide +kernel
theorem dX2_addsRocket_45 : decode cX2_addsRocket 45 = .ok (.aload_n 0, 1) := by decide +kernel
theorem dX2_addsRocket_46 : decode cX2_addsRocket 46 = .ok (.getfield 31, 3) := by decide +kernel
theorem dX2_addsRocket_49 : decode cX2_addsRocket 49 = .ok (.iload_n 1, 1) := by decide +kernel
theorem dX2_addsRocket_50 : decode cX2_addsRocket 50 = .ok (.iaload, 1) := by decide +kernel
theorem dX2_addsRocket_51 : decode cX2_addsRocket 51 = .ok (.iastore, 1) := by decide +kernel
theorem dX2_addsRocket_52 : decode cX2_addsRocket 52 = .ok (.iinc 1 1, 3) := by decide +kernel
theorem dX2_addsRocket_55 : decode cX2_addsRocket 55 = .ok (.goto (-29), 3) := by decide +kernel
theorem dX2_addsRocket_58 : decode cX2_addsRocket 58 = .ok (.aload_n 0, 1) := by decide +kernel
theorem dX2_addsRocket_59 : decode cX2_addsRocket 59 = .ok (.getfield 9, 3) := by decide +kernel
theorem dX2_addsRocket_62 : decode cX2_addsRocket 62 = .ok (.aload_n 0, 1) := by decide +kernel
theorem dX2_addsRocket_63 : decode cX2_addsRocket 63 = .ok (.getfield 9, 3) := by decide +kernel
theorem dX2_addsRocket_66 : decode cX2_addsRocket 66 = .ok (.iconst 0, 1) := by decide +kernel
theorem dX2_addsRocket_67 : decode cX2_addsRocket 67 = .ok (.iaload, 1) := by decide +kernel
theorem dX2_addsRocket_68 : decode cX2_addsRocket 68 = .ok (.iconst 3, 1) := by decide +kernel
theorem dX2_addsRocket_69 : decode cX2_addsRocket 69 = .ok (.invokestatic 44, 3) := by decide +kernel
theorem dX2_addsRocket_72 : decode cX2_addsRocket 72 = .ok (.iconst 0, 1) := by decide +kernel
theorem dX2_addsRocket_73 : decode cX2_addsRocket 73 = .ok (.iastore, 1) := by decide +kernel
theorem dX2_addsRocket_74 : decode cX2_addsRocket 74 = .ok (.aload_n 0, 1) := by decide +kernel
theorem dX2_addsRocket_75 : decode cX2_addsRocket 75 = .ok (.getfield 9, 3) := by decide +kernel
theorem dX2_addsRocket_78 : decode cX2_addsRocket 78 = .ok (.iconst 0, 1) := by decide +kernel
theorem dX2_addsRocket_79 : decode cX2_addsRocket 79 = .ok (.dup2, 1) := by decide +kernel
theorem dX2_addsRocket_80 : decode cX2_addsRocket 80 = .ok (.iaload, 1) := by decide +kernel
theorem dX2_addsRocket_81 : decode cX2_addsRocket 81 = .ok (.iconst 1, 1) := by decide +kernel
theorem dX2_addsRocket_82 : decode cX2_addsRocket 82 = .ok (.iadd, 1) := by decide +kernel
theorem dX2_addsRocket_83 : decode cX2_addsRocket 83 = .ok (.iastore, 1) := by decide +kernel
theorem dX2_addsRocket_84 : decode cX2_addsRocket 84 = .ok (.iconst 1, 1) := by decide +kernel
theorem dX2_addsRocket_85 : decode cX2_addsRocket 85 = .ok (.ireturn, 1) := by decide +kernel
theorem dX2_addsReader_0 : decode cX2_addsReader 0 = .ok (.aload_n 0, 1) := by decide +kernel
theorem dX2_addsReader_1 : decode cX2_addsReader 1 = .ok (.getfield 31, 3) := by decide +kernel
theorem dX2_addsReader_4 : decode cX2_addsReader 4 = .ok (.iconst 0, 1) := by decide +kernel
theorem dX2_addsReader_5 : decode cX2_addsReader 5 = .ok (.iaload, 1) := by decide +kernel
theorem dX2_addsReader_6 : decode cX2_addsReader 6 = .ok (.bipush 20, 2) := by decide +kernel
theorem dX2_addsReader_8 : decode cX2_addsReader 8 = .ok (.if_icmp .ge 13, 3) := by decide +kernel
theorem dX2_addsReader_11 : decode cX2_addsReader 11 = .ok (.aload_n 0, 1) := by decide +kernel
theorem dX2_addsReader_12 : decode cX2_addsReader 12 = .ok (.getfield 9, 3) := by decide +kernel
theorem dX2_addsReader_15 : decode cX2_addsReader 15 = .ok (.iconst 1, 1) := by decide +kernel
theorem dX2_addsReader_16 : decode cX2_addsReader 16 = .ok (.iaload, 1) := by decide +kernel
theorem dX2_addsReader_17 : decode cX2_addsReader 17 = .ok (.iconst 5, 1) := by decide +kernel
theorem dX2_addsReader_18 : decode cX2_addsReader 18 = .ok (.if_icmp .ne 5, 3) := by decide +kernel
theorem dX2_addsReader_21 : decode cX2_addsReader 21 = .ok (.iconst 0, 1) := by decide +kernel
theorem dX2_addsReader_22 : decode cX2_addsReader 22 = .ok (.ireturn, 1) := by decide +kernel
theorem dX2_addsReader_23 : decode cX2_addsReader 23 = .ok (.aload_n 0, 1) := by decide +kernel
theorem dX2_addsReader_24 : decode cX2_addsReader 24 = .ok (.getfield 9, 3) := by decide +kernel
theorem dX2_addsReader_27 : decode cX2_addsReader 27 = .ok (.aload_n 0, 1) := by decide +kernel
theorem dX2_addsReader_28 : decode cX2_addsReader 28 = .ok (.getfield 9, 3) := by decide +kernel
theorem dX2_addsReader_31 : decode cX2_addsReader 31 = .ok (.iconst 1, 1) := by decide +kernel
theorem dX2_addsReader_32 : decode cX2_addsReader 32 = .ok (.iaload, 1) := by decide +kernel
theorem dX2_addsReader_33 : decode cX2_addsReader 33 = .ok (.iconst 0, 1) := by decide +kernel
theorem dX2_addsReader_34 : decode cX2_addsReader 34 = .ok (.invokestatic 48, 3) := by decide +kernel
theorem dX2_addsReader_37 : decode cX2_addsReader 37 = .ok (.aload_n 0, 1) := by decide +kernel
theorem dX2_addsReader_38 : decode cX2_addsReader 38 = .ok (.getfield 31, 3) := by decide +kernel
theorem dX2_addsReader_41 : decode cX2_addsReader 41 = .ok (.iconst 0, 1) := by decide +kernel
theorem dX2_addsReader_42 : decode cX2_addsReader 42 = .ok (.iaload, 1) := by decide +kernel
theorem dX2_addsReader_43 : decode cX2_addsReader 43 = .ok (.iastore, 1) := by decide +kernel
theorem dX2_addsReader_44 : decode cX2_addsReader 44 = .ok (.aload_n 0, 1) := by decide +kernel
theorem dX2_addsReader_45 : decode cX2_addsReader 45 = .ok (.getfield 9, 3) := by decide +kernel
theorem dX2_addsReader_48 : decode cX2_addsReader 48 = .ok (.aload_n 0, 1) := by decide +kernel
theorem dX2_addsReader_49 : decode cX2_addsReader 49 = .ok (.getfield 9, 3) := by decide +kernel
theorem dX2_addsReader_52 : decode cX2_addsReader 52 = .ok (.iconst 1, 1) := by decide +kernel
theorem dX2_addsReader_53 : decode cX2_addsReader 53 = .ok (.iaload, 1) := by decide +kernel
theorem dX2_addsReader_54 : decode cX2_addsReader 54 = .ok (.iconst 1, 1) := by decide +kernel
theorem dX2_addsReader_55 : decode cX2_addsReader 55 = .ok (.invokestatic 48, 3) := by decide +kernel
theorem dX2_addsReader_58 : decode cX2_addsReader 58 = .ok (.aload_n 0, 1) := by decide +kernel
theorem dX2_addsReader_59 : decode cX2_addsReader 59 = .ok (.getfield 31, 3) := by decide +kernel
theorem dX2_addsReader_62 : decode cX2_addsReader 62 = .ok (.iconst 1, 1) := by decide +kernel
theorem dX2_addsReader_63 : decode cX2_addsReader 63 = .ok (.iaload, 1) := by decide +kernel
theorem dX2_addsReader_64 : decode cX2_addsReader 64 = .ok (.iastore, 1) := by decide +kernel
theorem dX2_addsReader_65 : decode cX2_addsReader 65 = .ok (.iconst 0, 1) := by decide +kernel
theorem dX2_addsReader_66 : decode cX2_addsReader 66 = .ok (.istore_n 1, 1) := by decide +kernel
theorem dX2_addsReader_67 : decode cX2_addsReader 67 = .ok (.iload_n 1, 1) := by decide +kernel
theorem dX2_addsReader_68 : decode cX2_addsReader 68 = .ok (.bipush 6, 2) := by decide +kernel
theorem dX2_addsReader_70 : decode cX2_addsReader 70 = .ok (.if_icmp .ge 27, 3) := by decide +kernel
theorem dX2_addsReader_73 : decode cX2_addsReader 73 = .ok (.aload_n 0, 1) := by decide +kernel
theorem dX2_addsReader_74 : decode cX2_addsReader 74 = .ok (.getfield 9, 3) := by decide +kernel
theorem dX2_addsReader_77 : decode cX2_addsReader 77 = .ok (.aload_n 0, 1) := by decide +kernel
theorem dX2_addsReader_78 : decode cX2_addsReader 78 = .ok (.getfield 9, 3) := by decide +kernel
theorem dX2_addsReader_81 : decode cX2_addsReader 81 = .ok (.iconst 1, 1) := by decide +kernel
theorem dX2_addsReader_82 : decode cX2_addsReader 82 = .ok (.iaload, 1) := by decide +kernel
theorem dX2_addsReader_83 : decode cX2_addsReader 83 = .ok (.iconst 2, 1) := by decide +kernel
theorem dX2_addsReader_84 : decode cX2_addsReader 84 = .ok (.iload_n 1, 1) := by decide +kernel
theorem dX2_addsReader_85 : decode cX2_addsReader 85 = .ok (.iadd, 1) := by decide +kernel
theorem dX2_addsReader_86 : decode cX2_addsReader 86 = .ok (.invokestatic 48, 3) := by decide +kernel
theorem dX2_addsReader_89 : decode cX2_addsReader 89 = .ok (.iconst 0, 1) := by decide +kernel
theorem dX2_addsReader_90 : decode cX2_addsReader 90 = .ok (.iastore, 1) := by decide +kernel
theorem dX2_addsReader_91 : decode cX2_addsReader 91 = .ok (.iinc 1 1, 3) := by decide +kernel
theorem dX2_addsReader_94 : decode cX2_addsReader 94 = .ok (.goto (-27), 3) := by decide +kernel
theorem dX2_addsReader_97 : decode cX2_addsReader 97 = .ok (.aload_n 0, 1) := by decide +kernel
theorem dX2_addsReader_98 : decode cX2_addsReader 98 = .ok (.getfield 9, 3) := by decide +kernel
theorem dX2_addsReader_101 : decode cX2_addsReader 101 = .ok (.iconst 1, 1) := by decide +kernel
theorem dX2_addsReader_102 : decode cX2_addsReader 102 = .ok (.dup2, 1) := by decide +kernel
theorem dX2_addsReader_103 : decode cX2_addsReader 103 = .ok (.iaload, 1) := by decide +kernel
theorem dX2_addsReader_104 : decode cX2_addsReader 104 = .ok (.iconst 1, 1) := by decide +kernel
theorem dX2_addsReader_105 : decode cX2_addsReader 105 = .ok (.iadd, 1) := by decide +kernel
theorem dX2_addsReader_106 : decode cX2_addsReader 106 = .ok (.iastore, 1) := by decide +kernel
theorem dX2_addsReader_107 : decode cX2_addsReader 107 = .ok (.iconst 1, 1) := by decide +kernel
theorem dX2_addsReader_108 : decode cX2_addsReader 108 = .ok (.ireturn, 1) := by decide +kernel
theorem dX2_isDone_0 : decode cX2_isDone 0 = .ok (.aload_n 0, 1) := by decide +kernel
theorem dX2_isDone_1 : decode cX2_isDone 1 = .ok (.getfield 31, 3) := by decide +kernel
theorem dX2_isDone_4 : decode cX2_isDone 4 = .ok (.iconst 0, 1) := by decide +kernel
theorem dX2_isDone_5 : decode cX2_isDone 5 = .ok (.iaload, 1) := by decide +kernel
theorem dX2_isDone_6 : decode cX2_isDone 6 = .ok (.istore_n 2, 1) := by decide +kernel
theorem dX2_isDone_7 : decode cX2_isDone 7 = .ok (.iload_n 1, 1) := by decide +kernel
theorem dX2_isDone_8 : decode cX2_isDone 8 = .ok (.lookupswitch 156 #[(98, 120), (103, 111), (112, 65), (114, 60), (115, 70), (119, 102)], 60) := by decide +kernel
theorem dX2_isDone_68 : decode cX2_isDone 68 = .ok (.aload_n 0, 1) := by decide +kernel
theorem dX2_isDone_69 : decode cX2_isDone 69 = .ok (.invokevirtual 118, 3) := by decide +kernel
theorem dX2_isDone_72 : decode cX2_isDone 72 = .ok (.ireturn, 1) := by decide +kernel
theorem dX2_isDone_73 : decode cX2_isDone 73 = .ok (.aload_n 0, 1) := by decide +kernel
theorem dX2_isDone_74 : decode cX2_isDone 74 = .ok (.invokevirtual 121, 3) := by decide +kernel
theorem dX2_isDone_77 : decode cX2_isDone 77 = .ok (.ireturn, 1) := by decide +kernel
theorem dX2_isDone_78 : decode cX2_isDone 78 = .ok (.aload_n 0, 1) := by decide +kernel
theorem dX2_isDone_79 : decode cX2_isDone 79 = .ok (.iload_n 2, 1) := by decide +kernel
theorem dX2_isDone_80 : decode cX2_isDone 80 = .ok (.invokevirtual 124, 3) := by decide +kernel
theorem dX2_isDone_83 : decode cX2_isDone 83 = .ok (.ifCond .eq 14, 3) := by decide +kernel
theorem dX2_isDone_86 : decode cX2_isDone 86 = .ok (.aload_n 0, 1) := by decide +kernel
theorem dX2_isDone_87 : decode cX2_isDone 87 = .ok (.getfield 9, 3) := by decide +kernel
theorem dX2_isDone_90 : decode cX2_isDone 90 = .ok (.iload_n 2, 1) := by decide +kernel
theorem dX2_isDone_91 : decode cX2_isDone 91 = .ok (.invokestatic 76, 3) := by decide +kernel
theorem dX2_isDone_94 : decode cX2_isDone 94 = .ok (.ifCond .ne 5, 3) := by decide +kernel
theorem dX2_isDone_97 : decode cX2_isDone 97 = .ok (.iconst 0, 1) := by decide +kernel
theorem dX2_isDone_98 : decode cX2_isDone 98 = .ok (.ireturn, 1) := by decide +kernel
theorem dX2_isDone_99 : decode cX2_isDone 99 = .ok (.aload_n 0, 1) := by decide +kernel
theorem dX2_isDone_100 : decode cX2_isDone 100 = .ok (.getfield 9, 3) := by decide +kernel
theorem dX2_isDone_103 : decode cX2_isDone 103 = .ok (.iload_n 2, 1) := by decide +kernel
theorem dX2_isDone_104 : decode cX2_isDone 104 = .ok (.iconst (-1), 1) := by decide +kernel
theorem dX2_isDone_105 : decode cX2_isDone 105 = .ok (.invokestatic 84, 3) := by decide +kernel
theorem dX2_isDone_108 : decode cX2_isDone 108 = .ok (.iconst 1, 1) := by decide +kernel
theorem dX2_isDone_109 : decode cX2_isDone 109 = .ok (.ireturn, 1) := by decide +kernel
theorem dX2_isDone_110 : decode cX2_isDone 110 = .ok (.aload_n 0, 1) := by decide +kernel
theorem dX2_isDone_111 : decode cX2_isDone 111 = .ok (.getfield 9, 3) := by decide +kernel
theorem dX2_isDone_114 : decode cX2_isDone 114 = .ok (.iconst 4, 1) := by decide +kernel
theorem dX2_isDone_115 : decode cX2_isDone 115 = .ok (.iload_n 2, 1) := by decide +kernel
theorem dX2_isDone_116 : decode cX2_isDone 116 = .ok (.iastore, 1) := by decide +kernel
theorem dX2_isDone_117 : decode cX2_isDone 117 = .ok (.iconst 1, 1) := by decide +kernel
theorem dX2_isDone_118 : decode cX2_isDone 118 = .ok (.ireturn, 1) := by decide +kernel
theorem dX2_isDone_119 : decode cX2_isDone 119 = .ok (.aload_n 0, 1) := by decide +kernel
theorem dX2_isDone_120 : decode cX2_isDone 120 = .ok (.getfield 9, 3) := by decide +kernel
theorem dX2_isDone_123 : decode cX2_isDone 123 = .ok (.iconst 3, 1) := by decide +kernel
theorem dX2_isDone_124 : decode cX2_isDone 124 = .ok (.iload_n 2, 1) := by decide +kernel
theorem dX2_isDone_125 : decode cX2_isDone 125 = .ok (.iastore, 1) := by decide +kernel
theorem dX2_isDone_126 : decode cX2_isDone 126 = .ok (.iconst 1, 1) := by decide +kernel
theorem dX2_isDone_127 : decode cX2_isDone 127 = .ok (.ireturn, 1) := by decide +kernel
theorem dX2_isDone_128 : decode cX2_isDone 128 = .ok (.aload_n 0, 1) := by decide +kernel
theorem dX2_isDone_129 : decode cX2_isDone 129 = .ok (.iload_n 2, 1) := by decide +kernel
theorem dX2_isDone_130 : decode cX2_isDone 130 = .ok (.invokevirtual 124, 3) := by decide +kernel
theorem dX2_isDone_133 : decode cX2_isDone 133 = .ok (.ifCond .eq 16, 3) := by decide +kernel
theorem dX2_isDone_136 : decode cX2_isDone 136 = .ok (.aload_n 0, 1) := by decide +kernel
theorem dX2_isDone_137 : decode cX2_isDone 137 = .ok (.getfield 9, 3) := by decide +kernel
theorem dX2_isDone_140 : decode cX2_isDone 140 = .ok (.iload_n 2, 1) := by decide +kernel
theorem dX2_isDone_141 : decode cX2_isDone 141 = .ok (.iconst 3, 1) := by decide +kernel
theorem dX2_isDone_142 : decode cX2_isDone 142 = .ok (.invokestatic 44, 3) := by decide +kernel
theorem dX2_isDone_145 : decode cX2_isDone 145 = .ok (.iaload, 1) := by decide +kernel
theorem dX2_isDone_146 : decode cX2_isDone 146 = .ok (.ifCond .ne 5, 3) := by decide +kernel
theorem dX2_isDone_149 : decode cX2_isDone 149 = .ok (.iconst 0, 1) := by decide +kernel
theorem dX2_isDone_150 : decode cX2_isDone 150 = .ok (.ireturn, 1) := by decide +kernel
theorem dX2_isDone_151 : decode cX2_isDone 151 = .ok (.aload_n 0, 1) := by decide +kernel
theorem dX2_isDone_152 : decode cX2_isDone 152 = .ok (.getfield 9, 3) := by decide +kernel
theorem dX2_isDone_155 : decode cX2_isDone 155 = .ok (.iload_n 2, 1) := by decide +kernel
theorem dX2_isDone_156 : decode cX2_isDone 156 = .ok (.iconst 3, 1) := by decide +kernel
theorem dX2_isDone_157 : decode cX2_isDone 157 = .ok (.invokestatic 44, 3) := by decide +kernel
theorem dX2_isDone_160 : decode cX2_isDone 160 = .ok (.iconst 0, 1) := by decide +kernel
theorem dX2_isDone_161 : decode cX2_isDone 161 = .ok (.iastore, 1) := by decide +kernel
theorem dX2_isDone_162 : decode cX2_isDone 162 = .ok (.iconst 1, 1) := by decide +kernel
theorem dX2_isDone_163 : decode cX2_isDone 163 = .ok (.ireturn, 1) := by decide +kernel
theorem dX2_isDone_164 : decode cX2_isDone 164 = .ok (.iload_n 2, 1) := by decide +kernel
theorem dX2_isDone_165 : decode cX2_isDone 165 = .ok (.iconst 1, 1) := by decide +kernel
theorem dX2_isDone_166 : decode cX2_isDone 166 = .ok (.bipush 60, 2) := by decide +kernel
theorem dX2_isDone_168 : decode cX2_isDone 168 = .ok (.invokestatic 40, 3) := by decide +kernel
theorem dX2_isDone_171 : decode cX2_isDone 171 = .ok (.ifCond .eq 17, 3) := by decide +kernel
theorem dX2_isDone_174 : decode cX2_isDone 174 = .ok (.aload_n 0, 1) := by decide +kernel
theorem dX2_isDone_175 : decode cX2_isDone 175 = .ok (.getfield 9, 3) := by decide +kernel
theorem dX2_isDone_178 : decode cX2_isDone 178 = .ok (.iconst 2, 1) := by decide +kernel
theorem dX2_isDone_179 : decode cX2_isDone 179 = .ok (.iaload, 1) := by decide +kernel
theorem dX2_isDone_180 : decode cX2_isDone 180 = .ok (.iload_n 2, 1) := by decide +kernel
theorem dX2_isDone_181 : decode cX2_isDone 181 = .ok (.iadd, 1) := by decide +kernel
theorem dX2_isDone_182 : decode cX2_isDone 182 = .ok (.sipush 999, 3) := by decide +kernel
theorem dX2_isDone_185 : decode cX2_isDone 185 = .ok (.if_icmp .le 5, 3) := by decide +kernel
theorem dX2_isDone_188 : decode cX2_isDone 188 = .ok (.iconst 0, 1) := by decide +kernel
theorem dX2_isDone_189 : decode cX2_isDone 189 = .ok (.ireturn, 1) := by decide +kernel
theorem dX2_isDone_190 : decode cX2_isDone 190 = .ok (.aload_n 0, 1) := by decide +kernel
theorem dX2_isDone_191 : decode cX2_isDone 191 = .ok (.getfield 9, 3) := by decide +kernel
theorem dX2_isDone_194 : decode cX2_isDone 194 = .ok (.iload_n 2, 1) := by decide +kernel
theorem dX2_isDone_195 : decode cX2_isDone 195 = .ok (.iconst (-1), 1) := by decide +kernel
theorem dX2_isDone_196 : decode cX2_isDone 196 = .ok (.invokestatic 128, 3) := by decide +kernel
theorem dX2_isDone_199 : decode cX2_isDone 199 = .ok (.iconst 1, 1) := by decide +kernel
theorem dX2_isDone_200 : decode cX2_isDone 200 = .ok (.ireturn, 1) := by decide +kernel
theorem dX2_valley_0 : decode cX2_valley 0 = .ok (.aload_n 0, 1) := by decide +kernel
theorem dX2_valley_1 : decode cX2_valley 1 = .ok (.iconst 0, 1) := by decide +kernel
theorem dX2_valley_2 : decode cX2_valley 2 = .ok (.putfield 101, 3) := by decide +kernel
theorem dX2_valley_5 : decode cX2_valley 5 = .ok (.iconst 0, 1) := by decide +kernel
theorem dX2_valley_6 : decode cX2_valley 6 = .ok (.istore_n 1, 1) := by decide +kernel
theorem dX2_valley_7 : decode cX2_valley 7 = .ok (.bipush (-9), 2) := by decide +kernel
theorem dX2_valley_9 : decode cX2_valley 9 = .ok (.istore_n 2, 1) := by decide +kernel
theorem dX2_valley_10 : decode cX2_valley 10 = .ok (.aload_n 0, 1) := by decide +kernel
theorem dX2_valley_11 : decode cX2_valley 11 = .ok (.invokevirtual 131, 3) := by decide +kernel
theorem dX2_valley_14 : decode cX2_valley 14 = .ok (.ifCond .ne 12, 3) := by decide +kernel
theorem dX2_valley_17 : decode cX2_valley 17 = .ok (.sipush (-1000), 3) := by decide +kernel
theorem dX2_valley_20 : decode cX2_valley 20 = .ok (.aload_n 0, 1) := by decide +kernel
theorem dX2_valley_21 : decode cX2_valley 21 = .ok (.getfield 101, 3) := by decide +kernel
theorem dX2_valley_24 : decode cX2_valley 24 = .ok (.isub, 1) := by decide +kernel
theorem dX2_valley_25 : decode cX2_valley 25 = .ok (.istore_n 2, 1) := by decide +kernel
theorem dX2_valley_26 : decode cX2_valley 26 = .ok (.iinc 1 1, 3) := by decide +kernel
theorem dX2_valley_29 : decode cX2_valley 29 = .ok (.iload_n 2, 1) := by decide +kernel
theorem dX2_valley_30 : decode cX2_valley 30 = .ok (.bipush (-9), 2) := by decide +kernel
theorem dX2_valley_32 : decode cX2_valley 32 = .ok (.if_icmp .ne 14, 3) := by decide +kernel
theorem dX2_valley_35 : decode cX2_valley 35 = .ok (.aload_n 0, 1) := by decide +kernel
theorem dX2_valley_36 : decode cX2_valley 36 = .ok (.getfield 101, 3) := by decide +kernel
theorem dX2_valley_39 : decode cX2_valley 39 = .ok (.aload_n 0, 1) := by decide +kernel
theorem dX2_valley_40 : decode cX2_valley 40 = .ok (.getfield 97, 3) := by decide +kernel
theorem dX2_valley_43 : decode cX2_valley 43 = .ok (.if_icmp .lt (-33), 3) := by decide +kernel
theorem dX2_valley_46 : decode cX2_valley 46 = .ok (.aload_n 0, 1) := by decide +kernel
theorem dX2_valley_47 : decode cX2_valley 47 = .ok (.getfield 9, 3) := by decide +kernel
theorem dX2_valley_50 : decode cX2_valley 50 = .ok (.aload_n 0, 1) := by decide +kernel
theorem dX2_valley_51 : decode cX2_valley 51 = .ok (.getfield 19, 3) := by decide +kernel
theorem dX2_valley_54 : decode cX2_valley 54 = .ok (.invokestatic 134, 3) := by decide +kernel
theorem dX2_valley_57 : decode cX2_valley 57 = .ok (.aload_n 0, 1) := by decide +kernel
theorem dX2_valley_58 : decode cX2_valley 58 = .ok (.iconst 0, 1) := by decide +kernel
theorem dX2_valley_59 : decode cX2_valley 59 = .ok (.putfield 101, 3) := by decide +kernel
theorem dX2_valley_62 : decode cX2_valley 62 = .ok (.iload_n 2, 1) := by decide +kernel
theorem dX2_valley_63 : decode cX2_valley 63 = .ok (.bipush (-9), 2) := by decide +kernel
theorem dX2_valley_65 : decode cX2_valley 65 = .ok (.if_icmp .ne 63, 3) := by decide +kernel
theorem dX2_valley_68 : decode cX2_valley 68 = .ok (.aload_n 0, 1) := by decide +kernel
theorem dX2_valley_69 : decode cX2_valley 69 = .ok (.getfield 101, 3) := by decide +kernel
theorem dX2_valley_72 : decode cX2_valley 72 = .ok (.aload_n 0, 1) := by decide +kernel
theorem dX2_valley_73 : decode cX2_valley 73 = .ok (.getfield 97, 3) := by decide +kernel
theorem dX2_valley_76 : decode cX2_valley 76 = .ok (.if_icmp .ge 52, 3) := by decide +kernel
theorem dX2_valley_79 : decode cX2_valley 79 = .ok (.aload_n 0, 1) := by decide +kernel
theorem dX2_valley_80 : decode cX2_valley 80 = .ok (.getfield 101, 3) := by decide +kernel
theorem dX2_valley_83 : decode cX2_valley 83 = .ok (.istore_n 3, 1) := by decide +kernel
theorem dX2_valley_84 : decode cX2_valley 84 = .ok (.aload_n 0, 1) := by decide +kernel
theorem dX2_valley_85 : decode cX2_valley 85 = .ok (.invokevirtual 104, 3) := by decide +kernel
theorem dX2_valley_88 : decode cX2_valley 88 = .ok (.istore 4, 2) := by decide +kernel
theorem dX2_valley_90 : decode cX2_valley 90 = .ok (.aload_n 0, 1) := by decide +kernel
theorem dX2_valley_91 : decode cX2_valley 91 = .ok (.invokevirtual 131, 3) := by decide +kernel
theorem dX2_valley_94 : decode cX2_valley 94 = .ok (.istore 5, 2) := by decide +kernel
theorem dX2_valley_96 : decode cX2_valley 96 = .ok (.aload_n 0, 1) := by decide +kernel
theorem dX2_valley_97 : decode cX2_valley 97 = .ok (.iload 4, 2) := by decide +kernel
theorem dX2_valley_99 : decode cX2_valley 99 = .ok (.invokevirtual 138, 3) := by decide +kernel
theorem dX2_valley_102 : decode cX2_valley 102 = .ok (.ifCond .eq 6, 3) := by decide +kernel
theorem dX2_valley_105 : decode cX2_valley 105 = .ok (.goto (-43), 3) := by decide +kernel
theorem dX2_valley_108 : decode cX2_valley 108 = .ok (.sipush (-2000), 3) := by decide +kernel
theorem dX2_valley_111 : decode cX2_valley 111 = .ok (.iload_n 3, 1) := by decide +kernel
theorem dX2_valley_112 : decode cX2_valley 112 = .ok (.isub, 1) := by decide +kernel
theorem dX2_valley_113 : decode cX2_valley 113 = .ok (.istore_n 2, 1) := by decide +kernel
theorem dX2_valley_114 : decode cX2_valley 114 = .ok (.aload_n 0, 1) := by decide +kernel
theorem dX2_valley_115 : decode cX2_valley 115 = .ok (.getfield 19, 3) := by decide +kernel
theorem dX2_valley_118 : decode cX2_valley 118 = .ok (.aload_n 0, 1) := by decide +kernel
theorem dX2_valley_119 : decode cX2_valley 119 = .ok (.getfield 9, 3) := by decide +kernel
theorem dX2_valley_122 : decode cX2_valley 122 = .ok (.invokestatic 134, 3) := by decide +kernel
theorem dX2_valley_125 : decode cX2_valley 125 = .ok (.goto (-63), 3) := by decide +kernel
theorem dX2_valley_128 : decode cX2_valley 128 = .ok (.aload_n 0, 1) := by decide +kernel
theorem dX2_valley_129 : decode cX2_valley 129 = .ok (.iconst 0, 1) := by decide +kernel
theorem dX2_valley_130 : decode cX2_valley 130 = .ok (.putfield 97, 3) := by decide +kernel
theorem dX2_valley_133 : decode cX2_valley 133 = .ok (.iload_n 2, 1) := by decide +kernel
theorem dX2_valley_134 : decode cX2_valley 134 = .ok (.bipush (-9), 2) := by decide +kernel
theorem dX2_valley_136 : decode cX2_valley 136 = .ok (.if_icmp .ne 7, 3) := by decide +kernel
theorem dX2_valley_139 : decode cX2_valley 139 = .ok (.iload_n 1, 1) := by decide +kernel
theorem dX2_valley_140 : decode cX2_valley 140 = .ok (.goto 4, 3) := by decide +kernel
theorem dX2_valley_143 : decode cX2_valley 143 = .ok (.iload_n 2, 1) := by decide +kernel
theorem dX2_valley_144 : decode cX2_valley 144 = .ok (.ireturn, 1) := by decide +kernel
theorem dX2_rocket_0 : decode cX2_rocket 0 = .ok (.aload_n 0, 1) := by decide +kernel
theorem dX2_rocket_1 : decode cX2_rocket 1 = .ok (.iload_n 1, 1) := by decide +kernel
theorem dX2_rocket_2 : decode cX2_rocket 2 = .ok (.invokevirtual 124, 3) := by decide +kernel
theorem dX2_rocket_5 : decode cX2_rocket 5 = .ok (.ifCond .ne 9, 3) := by decide +kernel
theorem dX2_rocket_8 : decode cX2_rocket 8 = .ok (.aload_n 0, 1) := by decide +kernel
theorem dX2_rocket_9 : decode cX2_rocket 9 = .ok (.iconst (-1), 1) := by decide +kernel
theorem dX2_rocket_10 : decode cX2_rocket 10 = .ok (.invokevirtual 36, 3) := by decide +kernel
theorem dX2_rocket_13 : decode cX2_rocket 13 = .ok (.ireturn, 1) := by decide +kernel
theorem dX2_rocket_14 : decode cX2_rocket 14 = .ok (.aload_n 0, 1) := by decide +kernel
theorem dX2_rocket_15 : decode cX2_rocket 15 = .ok (.getfield 9, 3) := by decide +kernel
theorem dX2_rocket_18 : decode cX2_rocket 18 = .ok (.iload_n 1, 1) := by decide +kernel
theorem dX2_rocket_19 : decode cX2_rocket 19 = .ok (.iconst 0, 1) := by decide +kernel
theorem dX2_rocket_20 : decode cX2_rocket 20 = .ok (.invokestatic 44, 3) := by decide +kernel
theorem dX2_rocket_23 : decode cX2_rocket 23 = .ok (.iaload, 1) := by decide +kernel
theorem dX2_rocket_24 : decode cX2_rocket 24 = .ok (.istore_n 3, 1) := by decide +kernel
theorem dX2_rocket_25 : decode cX2_rocket 25 = .ok (.aload_n 0, 1) := by decide +kernel
theorem dX2_rocket_26 : decode cX2_rocket 26 = .ok (.getfield 9, 3) := by decide +kernel
theorem dX2_rocket_29 : decode cX2_rocket 29 = .ok (.iload_n 1, 1) := by decide +kernel
theorem dX2_rocket_30 : decode cX2_rocket 30 = .ok (.iconst 1, 1) := by decide +kernel
theorem dX2_rocket_31 : decode cX2_rocket 31 = .ok (.invokestatic 44, 3) := by decide +kernel
theorem dX2_rocket_34 : decode cX2_rocket 34 = .ok (.iaload, 1) := by decide +kernel
theorem dX2_rocket_35 : decode cX2_rocket 35 = .ok (.istore 4, 2) := by decide +kernel
theorem dX2_rocket_37 : decode cX2_rocket 37 = .ok (.iload_n 2, 1) := by decide +kernel
theorem dX2_rocket_38 : decode cX2_rocket 38 = .ok (.tableswitch 98 0 8 #[50, 50, 50, 50, 61, 66, 73, 80, 89], 50) := by decide +kernel
theorem dX2_rocket_88 : decode cX2_rocket 88 = .ok (.aload_n 0, 1) := by decide +kernel
theorem dX2_rocket_89 : decode cX2_rocket 89 = .ok (.getfield 9, 3) := by decide +kernel
theorem dX2_rocket_92 : decode cX2_rocket 92 = .ok (.iload_n 1, 1) := by decide +kernel
theorem dX2_rocket_93 : decode cX2_rocket 93 = .ok (.iload_n 2, 1) := by decide +kernel
theorem dX2_rocket_94 : decode cX2_rocket 94 = .ok (.invokestatic 44, 3) := by decide +kernel
theorem dX2_rocket_97 : decode cX2_rocket 97 = .ok (.iaload, 1) := by decide +kernel
theorem dX2_rocket_98 : decode cX2_rocket 98 = .ok (.ireturn, 1) := by decide +kernel
theorem dX2_rocket_99 : decode cX2_rocket 99 = .ok (.iload_n 3, 1) := by decide +kernel
theorem dX2_rocket_100 : decode cX2_rocket 100 = .ok (.invokestatic 69, 3) := by decide +kernel
theorem dX2_rocket_103 : decode cX2_rocket 103 = .ok (.ireturn, 1) := by decide +kernel
theorem dX2_rocket_104 : decode cX2_rocket 104 = .ok (.iload_n 3, 1) := by decide +kernel
theorem dX2_rocket_105 : decode cX2_rocket 105 = .ok (.iload 4, 2) := by decide +kernel
theorem dX2_rocket_107 : decode cX2_rocket 107 = .ok (.invokestatic 58, 3) := by decide +kernel
theorem dX2_rocket_110 : decode cX2_rocket 110 = .ok (.ireturn, 1) := by decide +kernel
theorem dX2_rocket_111 : decode cX2_rocket 111 = .ok (.iload_n 3, 1) := by decide +kernel
theorem dX2_rocket_112 : decode cX2_rocket 112 = .ok (.iload 4, 2) := by decide +kernel
theorem dX2_rocket_114 : decode cX2_rocket 114 = .ok (.invokestatic 141, 3) := by decide +kernel
theorem dX2_rocket_117 : decode cX2_rocket 117 = .ok (.ireturn, 1) := by decide +kernel
theorem dX2_rocket_118 : decode cX2_rocket 118 = .ok (.aload_n 0, 1) := by decide +kernel
theorem dX2_rocket_119 : decode cX2_rocket 119 = .ok (.getfield 9, 3) := by decide +kernel
theorem dX2_rocket_122 : decode cX2_rocket 122 = .ok (.iload_n 1, 1) := by decide +kernel
theorem dX2_rocket_123 : decode cX2_rocket 123 = .ok (.invokestatic 51, 3) := by decide +kernel
theorem dX2_rocket_126 : decode cX2_rocket 126 = .ok (.ireturn, 1) := by decide +kernel
theorem dX2_rocket_127 : decode cX2_rocket 127 = .ok (.aload_n 0, 1) := by decide +kernel
theorem dX2_rocket_128 : decode cX2_rocket 128 = .ok (.getfield 9, 3) := by decide +kernel
theorem dX2_rocket_131 : decode cX2_rocket 131 = .ok (.iload_n 1, 1) := by decide +kernel
theorem dX2_rocket_132 : decode cX2_rocket 132 = .ok (.invokestatic 144, 3) := by decide +kernel
theorem dX2_rocket_135 : decode cX2_rocket 135 = .ok (.ireturn, 1) := by decide +kernel
theorem dX2_rocket_136 : decode cX2_rocket 136 = .ok (.aload_n 0, 1) := by decide +kernel
theorem dX2_rocket_137 : decode cX2_rocket 137 = .ok (.bipush (-2), 2) := by decide +kernel
theorem dX2_rocket_139 : decode cX2_rocket 139 = .ok (.invokevirtual 36, 3) := by decide +kernel
theorem dX2_rocket_142 : decode cX2_rocket 142 = .ok (.ireturn, 1) := by decide +kernel
theorem dX2_reader_0 : decode cX2_reader 0 = .ok (.aload_n 0, 1) := by decide +kernel
theorem dX2_reader_1 : decode cX2_reader 1 = .ok (.iload_n 1, 1) := by decide +kernel
theorem dX2_reader_2 : decode cX2_reader 2 = .ok (.invokevirtual 147, 3) := by decide +kernel
theorem dX2_reader_5 : decode cX2_reader 5 = .ok (.ifCond .ne 9, 3) := by decide +kernel
theorem dX2_reader_8 : decode cX2_reader 8 = .ok (.aload_n 0, 1) := by decide +kernel
theorem dX2_reader_9 : decode cX2_reader 9 = .ok (.iconst (-1), 1) := by decide +kernel
theorem dX2_reader_10 : decode cX2_reader 10 = .ok (.invokevirtual 36, 3) := by decide +kernel
theorem dX2_reader_13 : decode cX2_reader 13 = .ok (.ireturn, 1) := by decide +kernel
theorem dX2_reader_14 : decode cX2_reader 14 = .ok (.iload_n 2, 1) := by decide +kernel
theorem dX2_reader_15 : decode cX2_reader 15 = .ok (.iconst 2, 1) := by decide +kernel
theorem dX2_reader_16 : decode cX2_reader 16 = .ok (.if_icmp .ne 14, 3) := by decide +kernel
theorem dX2_reader_19 : decode cX2_reader 19 = .ok (.aload_n 0, 1) := by decide +kernel
theorem dX2_reader_20 : decode cX2_reader 20 = .ok (.getfield 9, 3) := by decide +kernel
theorem dX2_reader_23 : decode cX2_reader 23 = .ok (.iload_n 1, 1) := by decide +kernel
theorem dX2_reader_24 : decode cX2_reader 24 = .ok (.invokestatic 91, 3) := by decide +kernel
theorem dX2_reader_27 : decode cX2_reader 27 = .ok (.goto 31, 3) := by decide +kernel
theorem dX2_reader_30 : decode cX2_reader 30 = .ok (.iload_n 2, 1) := by decide +kernel
theorem dX2_reader_31 : decode cX2_reader 31 = .ok (.iconst 0, 1) := by decide +kernel
theorem dX2_reader_32 : decode cX2_reader 32 = .ok (.iconst 1, 1) := by decide +kernel
theorem dX2_reader_33 : decode cX2_reader 33 = .ok (.invokestatic 40, 3) := by decide +kernel
theorem dX2_reader_36 : decode cX2_reader 36 = .ok (.ifCond .eq 16, 3) := by decide +kernel
theorem dX2_reader_39 : decode cX2_reader 39 = .ok (.aload_n 0, 1) := by decide +kernel
theorem dX2_reader_40 : decode cX2_reader 40 = .ok (.getfield 9, 3) := by decide +kernel
theorem dX2_reader_43 : decode cX2_reader 43 = .ok (.iload_n 1, 1) := by decide +kernel
theorem dX2_reader_44 : decode cX2_reader 44 = .ok (.iload_n 2, 1) := by decide +kernel
theorem dX2_reader_45 : decode cX2_reader 45 = .ok (.invokestatic 48, 3) := by decide +kernel
theorem dX2_reader_48 : decode cX2_reader 48 = .ok (.iaload, 1) := by decide +kernel
theorem dX2_reader_49 : decode cX2_reader 49 = .ok (.goto 9, 3) := by decide +kernel
theorem dX2_reader_52 : decode cX2_reader 52 = .ok (.aload_n 0, 1) := by decide +kernel
theorem dX2_reader_53 : decode cX2_reader 53 = .ok (.bipush (-2), 2) := by decide +kernel
theorem dX2_reader_55 : decode cX2_reader 55 = .ok (.invokevirtual 36, 3) := by decide +kernel
theorem dX2_reader_58 : decode cX2_reader 58 = .ok (.ireturn, 1) := by decide +kernel
theorem dX2_keeps_0 : decode cX2_keeps 0 = .ok (.aload_n 0, 1) := by decide +kernel
theorem dX2_keeps_1 : decode cX2_keeps 1 = .ok (.iload_n 1, 1) := by decide +kernel
theorem dX2_keeps_2 : decode cX2_keeps 2 = .ok (.invokevirtual 147, 3) := by decide +kernel
theorem dX2_keeps_5 : decode cX2_keeps 5 = .ok (.ifCond .eq 27, 3) := by decide +kernel
theorem dX2_keeps_8 : decode cX2_keeps 8 = .ok (.iload_n 2, 1) := by decide +kernel
theorem dX2_keeps_9 : decode cX2_keeps 9 = .ok (.iconst 0, 1) := by decide +kernel
theorem dX2_keeps_10 : decode cX2_keeps 10 = .ok (.iconst 5, 1) := by decide +kernel
theorem dX2_keeps_11 : decode cX2_keeps 11 = .ok (.invokestatic 40, 3) := by decide +kernel
theorem dX2_keeps_14 : decode cX2_keeps 14 = .ok (.ifCond .eq 18, 3) := by decide +kernel
theorem dX2_keeps_17 : decode cX2_keeps 17 = .ok (.aload_n 0, 1) := by decide +kernel
theorem dX2_keeps_18 : decode cX2_keeps 18 = .ok (.getfield 9, 3) := by decide +kernel
theorem dX2_keeps_21 : decode cX2_keeps 21 = .ok (.iload_n 1, 1) := by decide +kernel
theorem dX2_keeps_22 : decode cX2_keeps 22 = .ok (.iconst 2, 1) := by decide +kernel
theorem dX2_keeps_23 : decode cX2_keeps 23 = .ok (.iload_n 2, 1) := by decide +kernel
theorem dX2_keeps_24 : decode cX2_keeps 24 = .ok (.iadd, 1) := by decide +kernel
theorem dX2_keeps_25 : decode cX2_keeps 25 = .ok (.invokestatic 48, 3) := by decide +kernel
theorem dX2_keeps_28 : decode cX2_keeps 28 = .ok (.iaload, 1) := by decide +kernel
theorem dX2_keeps_29 : decode cX2_keeps 29 = .ok (.goto 8, 3) := by decide +kernel
theorem dX2_keeps_32 : decode cX2_keeps 32 = .ok (.aload_n 0, 1) := by decide +kernel
theorem dX2_keeps_33 : decode cX2_keeps 33 = .ok (.iconst (-1), 1) := by decide +kernel
theorem dX2_keeps_34 : decode cX2_keeps 34 = .ok (.invokevirtual 36, 3) := by decide +kernel
theorem dX2_keeps_37 : decode cX2_keeps 37 = .ok (.ireturn, 1) := by decide +kernel
theorem dX2_sends_0 : decode cX2_sends 0 = .ok (.aload_n 0, 1) := by decide +kernel
theorem dX2_sends_1 : decode cX2_sends 1 = .ok (.iload_n 1, 1) := by decide +kernel
theorem dX2_sends_2 : decode cX2_sends 2 = .ok (.invokevirtual 124, 3) := by decide +kernel
theorem dX2_sends_5 : decode cX2_sends 5 = .ok (.ifCond .ne 9, 3) := by decide +kernel
theorem dX2_sends_8 : decode cX2_sends 8 = .ok (.aload_n 0, 1) := by decide +kernel
theorem dX2_sends_9 : decode cX2_sends 9 = .ok (.iconst (-1), 1) := by decide +kernel
theorem dX2_sends_10 : decode cX2_sends 10 = .ok (.invokevirtual 36, 3) := by decide +kernel
theorem dX2_sends_13 : decode cX2_sends 13 = .ok (.ireturn, 1) := by decide +kernel
theorem dX2_sends_14 : decode cX2_sends 14 = .ok (.aload_n 0, 1) := by decide +kernel
theorem dX2_sends_15 : decode cX2_sends 15 = .ok (.getfield 9, 3) := by decide +kernel
theorem dX2_sends_18 : decode cX2_sends 18 = .ok (.iload_n 1, 1) := by decide +kernel
theorem dX2_sends_19 : decode cX2_sends 19 = .ok (.invokestatic 76, 3) := by decide +kernel
theorem dX2_sends_22 : decode cX2_sends 22 = .ok (.ifCond .ne 10, 3) := by decide +kernel
theorem dX2_sends_25 : decode cX2_sends 25 = .ok (.aload_n 0, 1) := by decide +kernel
theorem dX2_sends_26 : decode cX2_sends 26 = .ok (.bipush (-3), 2) := by decide +kernel
theorem dX2_sends_28 : decode cX2_sends 28 = .ok (.invokevirtual 36, 3) := by decide +kernel
theorem dX2_sends_31 : decode cX2_sends 31 = .ok (.ireturn, 1) := by decide +kernel
theorem dX2_sends_32 : decode cX2_sends 32 = .ok (.aload_n 0, 1) := by decide +kernel
theorem dX2_sends_33 : decode cX2_sends 33 = .ok (.getfield 9, 3) := by decide +kernel
theorem dX2_sends_36 : decode cX2_sends 36 = .ok (.iload_n 1, 1) := by decide +kernel
theorem dX2_sends_37 : decode cX2_sends 37 = .ok (.iconst (-1), 1) := by decide +kernel
theorem dX2_sends_38 : decode cX2_sends 38 = .ok (.invokestatic 84, 3) := by decide +kernel
theorem dX2_sends_41 : decode cX2_sends 41 = .ok (.aload_n 0, 1) := by decide +kernel
theorem dX2_sends_42 : decode cX2_sends 42 = .ok (.getfield 9, 3) := by decide +kernel
theorem dX2_sends_45 : decode cX2_sends 45 = .ok (.iconst 3, 1) := by decide +kernel
theorem dX2_sends_46 : decode cX2_sends 46 = .ok (.iaload, 1) := by decide +kernel
theorem dX2_sends_47 : decode cX2_sends 47 = .ok (.ireturn, 1) := by decide +kernel
theorem dX2_boxes_0 : decode cX2_boxes 0 = .ok (.aload_n 0, 1) := by decide +kernel
theorem dX2_boxes_1 : decode cX2_boxes 1 = .ok (.iload_n 1, 1) := by decide +kernel
theorem dX2_boxes_2 : decode cX2_boxes 2 = .ok (.invokevirtual 124, 3) := by decide +kernel
theorem dX2_boxes_5 : decode cX2_boxes 5 = .ok (.ifCond .ne 9, 3) := by decide +kernel
theorem dX2_boxes_8 : decode cX2_boxes 8 = .ok (.aload_n 0, 1) := by decide +kernel
theorem dX2_boxes_9 : decode cX2_boxes 9 = .ok (.iconst (-1), 1) := by decide +kernel
theorem dX2_boxes_10 : decode cX2_boxes 10 = .ok (.invokevirtual 36, 3) := by decide +kernel
theorem dX2_boxes_13 : decode cX2_boxes 13 = .ok (.ireturn, 1) := by decide +kernel
theorem dX2_boxes_14 : decode cX2_boxes 14 = .ok (.aload_n 0, 1) := by decide +kernel
theorem dX2_boxes_15 : decode cX2_boxes 15 = .ok (.getfield 9, 3) := by decide +kernel
theorem dX2_boxes_18 : decode cX2_boxes 18 = .ok (.iload_n 1, 1) := by decide +kernel
theorem dX2_boxes_19 : decode cX2_boxes 19 = .ok (.iconst 3, 1) := by decide +kernel
theorem dX2_boxes_20 : decode cX2_boxes 20 = .ok (.invokestatic 44, 3) := by decide +kernel
theorem dX2_boxes_23 : decode cX2_boxes 23 = .ok (.iaload, 1) := by decide +kernel
theorem dX2_boxes_24 : decode cX2_boxes 24 = .ok (.ifCond .ne 10, 3) := by decide +kernel
theorem dX2_boxes_27 : decode cX2_boxes 27 = .ok (.aload_n 0, 1) := by decide +kernel
theorem dX2_boxes_28 : decode cX2_boxes 28 = .ok (.bipush (-3), 2) := by decide +kernel
theorem dX2_boxes_30 : decode cX2_boxes 30 = .ok (.invokevirtual 36, 3) := by decide +kernel
theorem dX2_boxes_33 : decode cX2_boxes 33 = .ok (.ireturn, 1) := by decide +kernel
theorem dX2_boxes_34 : decode cX2_boxes 34 = .ok (.aload_n 0, 1) := by decide +kernel
theorem dX2_boxes_35 : decode cX2_boxes 35 = .ok (.getfield 9, 3) := by decide +kernel
theorem dX2_boxes_38 : decode cX2_boxes 38 = .ok (.iload_n 1, 1) := by decide +kernel
theorem dX2_boxes_39 : decode cX2_boxes 39 = .ok (.iconst 3, 1) := by decide +kernel
theorem dX2_boxes_40 : decode cX2_boxes 40 = .ok (.invokestatic 44, 3) := by decide +kernel
theorem dX2_boxes_43 : decode cX2_boxes 43 = .ok (.iconst 0, 1) := by decide +kernel
theorem dX2_boxes_44 : decode cX2_boxes 44 = .ok (.iastore, 1) := by decide +kernel
theorem dX2_boxes_45 : decode cX2_boxes 45 = .ok (.aload_n 0, 1) := by decide +kernel
theorem dX2_boxes_46 : decode cX2_boxes 46 = .ok (.getfield 9, 3) := by decide +kernel
theorem dX2_boxes_49 : decode cX2_boxes 49 = .ok (.iconst 0, 1) := by decide +kernel
theorem dX2_boxes_50 : decode cX2_boxes 50 = .ok (.iaload, 1) := by decide +kernel
theorem dX2_boxes_51 : decode cX2_boxes 51 = .ok (.aload_n 0, 1) := by decide +kernel
theorem dX2_boxes_52 : decode cX2_boxes 52 = .ok (.getfield 9, 3) := by decide +kernel
theorem dX2_boxes_55 : decode cX2_boxes 55 = .ok (.invokestatic 150, 3) := by decide +kernel
theorem dX2_boxes_58 : decode cX2_boxes 58 = .ok (.invokestatic 94, 3) := by decide +kernel
theorem dX2_boxes_61 : decode cX2_boxes 61 = .ok (.isub, 1) := by decide +kernel
theorem dX2_boxes_62 : decode cX2_boxes 62 = .ok (.ireturn, 1) := by decide +kernel
theorem dX2_wrongBy_0 : decode cX2_wrongBy 0 = .ok (.iload_n 0, 1) := by decide +kernel
theorem dX2_wrongBy_1 : decode cX2_wrongBy 1 = .ok (.iload_n 1, 1) := by decide +kernel
theorem dX2_wrongBy_2 : decode cX2_wrongBy 2 = .ok (.if_icmp .ge 8, 3) := by decide +kernel
theorem dX2_wrongBy_5 : decode cX2_wrongBy 5 = .ok (.bipush (-4), 2) := by decide +kernel
theorem dX2_wrongBy_7 : decode cX2_wrongBy 7 = .ok (.goto 14, 3) := by decide +kernel
theorem dX2_wrongBy_10 : decode cX2_wrongBy 10 = .ok (.iload_n 0, 1) := by decide +kernel
theorem dX2_wrongBy_11 : decode cX2_wrongBy 11 = .ok (.iload_n 2, 1) := by decide +kernel
theorem dX2_wrongBy_12 : decode cX2_wrongBy 12 = .ok (.if_icmp .le 8, 3) := by decide +kernel
theorem dX2_wrongBy_15 : decode cX2_wrongBy 15 = .ok (.bipush (-6), 2) := by decide +kernel
theorem dX2_wrongBy_17 : decode cX2_wrongBy 17 = .ok (.goto 4, 3) := by decide +kernel
theorem dX2_wrongBy_20 : decode cX2_wrongBy 20 = .ok (.iconst 0, 1) := by decide +kernel
theorem dX2_wrongBy_21 : decode cX2_wrongBy 21 = .ok (.ireturn, 1) := by decide +kernel
theorem dX2_sets_0 : decode cX2_sets 0 = .ok (.iload_n 2, 1) := by decide +kernel
theorem dX2_sets_1 : decode cX2_sets 1 = .ok (.iconst 0, 1) := by decide +kernel
theorem dX2_sets_2 : decode cX2_sets 2 = .ok (.iload_n 3, 1) := by decide +kernel
theorem dX2_sets_3 : decode cX2_sets 3 = .ok (.invokestatic 153, 3) := by decide +kernel
theorem dX2_sets_6 : decode cX2_sets 6 = .ok (.istore 4, 2) := by decide +kernel
theorem dX2_sets_8 : decode cX2_sets 8 = .ok (.iload 4, 2) := by decide +kernel
theorem dX2_sets_10 : decode cX2_sets 10 = .ok (.ifCond .eq 10, 3) := by decide +kernel
theorem dX2_sets_13 : decode cX2_sets 13 = .ok (.aload_n 0, 1) := by decide +kernel
theorem dX2_sets_14 : decode cX2_sets 14 = .ok (.iload 4, 2) := by decide +kernel
theorem dX2_sets_16 : decode cX2_sets 16 = .ok (.invokevirtual 36, 3) := by decide +kernel
theorem dX2_sets_19 : decode cX2_sets 19 = .ok (.ireturn, 1) := by decide +kernel
theorem dX2_sets_20 : decode cX2_sets 20 = .ok (.aload_n 0, 1) := by decide +kernel
theorem dX2_sets_21 : decode cX2_sets 21 = .ok (.getfield 9, 3) := by decide +kernel
theorem dX2_sets_24 : decode cX2_sets 24 = .ok (.iload_n 1, 1) := by decide +kernel
theorem dX2_sets_25 : decode cX2_sets 25 = .ok (.iaload, 1) := by decide +kernel
theorem dX2_sets_26 : decode cX2_sets 26 = .ok (.istore 5, 2) := by decide +kernel
theorem dX2_sets_28 : decode cX2_sets 28 = .ok (.aload_n 0, 1) := by decide +kernel
theorem dX2_sets_29 : decode cX2_sets 29 = .ok (.getfield 9, 3) := by decide +kernel
theorem dX2_sets_32 : decode cX2_sets 32 = .ok (.iload_n 1, 1) := by decide +kernel
theorem dX2_sets_33 : decode cX2_sets 33 = .ok (.iload_n 2, 1) := by decide +kernel
theorem dX2_sets_34 : decode cX2_sets 34 = .ok (.iastore, 1) := by decide +kernel
theorem dX2_sets_35 : decode cX2_sets 35 = .ok (.iload 5, 2) := by decide +kernel
theorem dX2_sets_37 : decode cX2_sets 37 = .ok (.ireturn, 1) := by decide +kernel
theorem dX2_wind_0 : decode cX2_wind 0 = .ok (.aload_n 0, 1) := by decide +kernel
theorem dX2_wind_1 : decode cX2_wind 1 = .ok (.iconst 4, 1) := by decide +kernel
theorem dX2_wind_2 : decode cX2_wind 2 = .ok (.iload_n 1, 1) := by decide +kernel
theorem dX2_wind_3 : decode cX2_wind 3 = .ok (.bipush 9, 2) := by decide +kernel
theorem dX2_wind_5 : decode cX2_wind 5 = .ok (.invokevirtual 157, 3) := by decide +kernel
theorem dX2_wind_8 : decode cX2_wind 8 = .ok (.ireturn, 1) := by decide +kernel
theorem dX2_grant_0 : decode cX2_grant 0 = .ok (.aload_n 0, 1) := by decide +kernel
theorem dX2_grant_1 : decode cX2_grant 1 = .ok (.iconst 3, 1) := by decide +kernel
theorem dX2_grant_2 : decode cX2_grant 2 = .ok (.iload_n 1, 1) := by decide +kernel
theorem dX2_grant_3 : decode cX2_grant 3 = .ok (.sipush 999, 3) := by decide +kernel
theorem dX2_grant_6 : decode cX2_grant 6 = .ok (.invokevirtual 157, 3) := by decide +kernel
theorem dX2_grant_9 : decode cX2_grant 9 = .ok (.ireturn, 1) := by decide +kernel
theorem dX2_stands_0 : decode cX2_stands 0 = .ok (.aload_n 0, 1) := by decide +kernel
theorem dX2_stands_1 : decode cX2_stands 1 = .ok (.iload_n 1, 1) := by decide +kernel
theorem dX2_stands_2 : decode cX2_stands 2 = .ok (.invokevirtual 147, 3) := by decide +kernel
theorem dX2_stands_5 : decode cX2_stands 5 = .ok (.ifCond .eq 28, 3) := by decide +kernel
theorem dX2_stands_8 : decode cX2_stands 8 = .ok (.iload_n 2, 1) := by decide +kernel
theorem dX2_stands_9 : decode cX2_stands 9 = .ok (.iconst 0, 1) := by decide +kernel
theorem dX2_stands_10 : decode cX2_stands 10 = .ok (.bipush 19, 2) := by decide +kernel
theorem dX2_stands_12 : decode cX2_stands 12 = .ok (.invokestatic 40, 3) := by decide +kernel
theorem dX2_stands_15 : decode cX2_stands 15 = .ok (.ifCond .eq 18, 3) := by decide +kernel
theorem dX2_stands_18 : decode cX2_stands 18 = .ok (.aload_n 0, 1) := by decide +kernel
theorem dX2_stands_19 : decode cX2_stands 19 = .ok (.iload_n 1, 1) := by decide +kernel
theorem dX2_stands_20 : decode cX2_stands 20 = .ok (.iconst 0, 1) := by decide +kernel
theorem dX2_stands_21 : decode cX2_stands 21 = .ok (.invokestatic 48, 3) := by decide +kernel
theorem dX2_stands_24 : decode cX2_stands 24 = .ok (.iload_n 2, 1) := by decide +kernel
theorem dX2_stands_25 : decode cX2_stands 25 = .ok (.bipush 20, 2) := by decide +kernel
theorem dX2_stands_27 : decode cX2_stands 27 = .ok (.invokevirtual 157, 3) := by decide +kernel
theorem dX2_stands_30 : decode cX2_stands 30 = .ok (.goto 8, 3) := by decide +kernel
theorem dX2_stands_33 : decode cX2_stands 33 = .ok (.aload_n 0, 1) := by decide +kernel
theorem dX2_stands_34 : decode cX2_stands 34 = .ok (.iconst (-1), 1) := by decide +kernel
theorem dX2_stands_35 : decode cX2_stands 35 = .ok (.invokevirtual 36, 3) := by decide +kernel
theorem dX2_stands_38 : decode cX2_stands 38 = .ok (.ireturn, 1) := by decide +kernel
theorem dX2_turn_0 : decode cX2_turn 0 = .ok (.aload_n 0, 1) := by decide +kernel
theorem dX2_turn_1 : decode cX2_turn 1 = .ok (.iload_n 1, 1) := by decide +kernel
theorem dX2_turn_2 : decode cX2_turn 2 = .ok (.invokevirtual 124, 3) := by decide +kernel
theorem dX2_turn_5 : decode cX2_turn 5 = .ok (.ifCond .ne 7, 3) := by decide +kernel
theorem dX2_turn_8 : decode cX2_turn 8 = .ok (.iconst (-1), 1) := by decide +kernel
theorem dX2_turn_9 : decode cX2_turn 9 = .ok (.goto 24, 3) := by decide +kernel
theorem dX2_turn_12 : decode cX2_turn 12 = .ok (.iload_n 2, 1) := by decide +kernel
theorem dX2_turn_13 : decode cX2_turn 13 = .ok (.iconst 0, 1) := by decide +kernel
theorem dX2_turn_14 : decode cX2_turn 14 = .ok (.iconst 5, 1) := by decide +kernel
theorem dX2_turn_15 : decode cX2_turn 15 = .ok (.invokestatic 40, 3) := by decide +kernel
theorem dX2_turn_18 : decode cX2_turn 18 = .ok (.ifCond .ne 8, 3) := by decide +kernel
theorem dX2_turn_21 : decode cX2_turn 21 = .ok (.bipush (-2), 2) := by decide +kernel
theorem dX2_turn_23 : decode cX2_turn 23 = .ok (.goto 10, 3) := by decide +kernel
theorem dX2_turn_26 : decode cX2_turn 26 = .ok (.iload_n 3, 1) := by decide +kernel
theorem dX2_turn_27 : decode cX2_turn 27 = .ok (.iconst 0, 1) := by decide +kernel
theorem dX2_turn_28 : decode cX2_turn 28 = .ok (.bipush 9, 2) := by decide +kernel
theorem dX2_turn_30 : decode cX2_turn 30 = .ok (.invokestatic 153, 3) := by decide +kernel
theorem dX2_turn_33 : decode cX2_turn 33 = .ok (.istore 4, 2) := by decide +kernel
theorem dX2_turn_35 : decode cX2_turn 35 = .ok (.iload 4, 2) := by decide +kernel
theorem dX2_turn_37 : decode cX2_turn 37 = .ok (.ifCond .eq 10, 3) := by decide +kernel
theorem dX2_turn_40 : decode cX2_turn 40 = .ok (.aload_n 0, 1) := by decide +kernel
theorem dX2_turn_41 : decode cX2_turn 41 = .ok (.iload 4, 2) := by decide +kernel
theorem dX2_turn_43 : decode cX2_turn 43 = .ok (.invokevirtual 36, 3) := by decide +kernel
theorem dX2_turn_46 : decode cX2_turn 46 = .ok (.ireturn, 1) := by decide +kernel
theorem dX2_turn_47 : decode cX2_turn 47 = .ok (.bipush 10, 2) := by decide +kernel
theorem dX2_turn_49 : decode cX2_turn 49 = .ok (.aload_n 0, 1) := by decide +kernel
theorem dX2_turn_50 : decode cX2_turn 50 = .ok (.getfield 9, 3) := by decide +kernel
theorem dX2_turn_53 : decode cX2_turn 53 = .ok (.iload_n 1, 1) := by decide +kernel
theorem dX2_turn_54 : decode cX2_turn 54 = .ok (.iconst 0, 1) := by decide +kernel
theorem dX2_turn_55 : decode cX2_turn 55 = .ok (.invokestatic 44, 3) := by decide +kernel
theorem dX2_turn_58 : decode cX2_turn 58 = .ok (.iaload, 1) := by decide +kernel
theorem dX2_turn_59 : decode cX2_turn 59 = .ok (.imul, 1) := by decide +kernel
theorem dX2_turn_60 : decode cX2_turn 60 = .ok (.aload_n 0, 1) := by decide +kernel
theorem dX2_turn_61 : decode cX2_turn 61 = .ok (.getfield 9, 3) := by decide +kernel
theorem dX2_turn_64 : decode cX2_turn 64 = .ok (.iload_n 1, 1) := by decide +kernel
theorem dX2_turn_65 : decode cX2_turn 65 = .ok (.iconst 1, 1) := by decide +kernel
theorem dX2_turn_66 : decode cX2_turn 66 = .ok (.invokestatic 44, 3) := by decide +kernel
theorem dX2_turn_69 : decode cX2_turn 69 = .ok (.iaload, 1) := by decide +kernel
theorem dX2_turn_70 : decode cX2_turn 70 = .ok (.iadd, 1) := by decide +kernel
theorem dX2_turn_71 : decode cX2_turn 71 = .ok (.istore 5, 2) := by decide +kernel
theorem dX2_turn_73 : decode cX2_turn 73 = .ok (.aload_n 0, 1) := by decide +kernel
theorem dX2_turn_74 : decode cX2_turn 74 = .ok (.getfield 9, 3) := by decide +kernel
theorem dX2_turn_77 : decode cX2_turn 77 = .ok (.iload_n 1, 1) := by decide +kernel
theorem dX2_turn_78 : decode cX2_turn 78 = .ok (.iconst 0, 1) := by decide +kernel
theorem dX2_turn_79 : decode cX2_turn 79 = .ok (.invokestatic 44, 3) := by decide +kernel
theorem dX2_turn_82 : decode cX2_turn 82 = .ok (.iload_n 2, 1) := by decide +kernel
theorem dX2_turn_83 : decode cX2_turn 83 = .ok (.iastore, 1) := by decide +kernel
theorem dX2_turn_84 : decode cX2_turn 84 = .ok (.aload_n 0, 1) := by decide +kernel
theorem dX2_turn_85 : decode cX2_turn 85 = .ok (.getfield 9, 3) := by decide +kernel
theorem dX2_turn_88 : decode cX2_turn 88 = .ok (.iload_n 1, 1) := by decide +kernel
theorem dX2_turn_89 : decode cX2_turn 89 = .ok (.iconst 1, 1) := by decide +kernel
theorem dX2_turn_90 : decode cX2_turn 90 = .ok (.invokestatic 44, 3) := by decide +kernel
theorem dX2_turn_93 : decode cX2_turn 93 = .ok (.iload_n 3, 1) := by decide +kernel
theorem dX2_turn_94 : decode cX2_turn 94 = .ok (.iastore, 1) := by decide +kernel
theorem dX2_turn_95 : decode cX2_turn 95 = .ok (.iload 5, 2) := by decide +kernel
theorem dX2_turn_97 : decode cX2_turn 97 = .ok (.ireturn, 1) := by decide +kernel
theorem dX2_nights_0 : decode cX2_nights 0 = .ok (.iload_n 1, 1) := by decide +kernel
theorem dX2_nights_1 : decode cX2_nights 1 = .ok (.iconst 1, 1) := by decide +kernel
theorem dX2_nights_2 : decode cX2_nights 2 = .ok (.if_icmp .ge 10, 3) := by decide +kernel
theorem dX2_nights_5 : decode cX2_nights 5 = .ok (.aload_n 0, 1) := by decide +kernel
theorem dX2_nights_6 : decode cX2_nights 6 = .ok (.bipush (-4), 2) := by decide +kernel
theorem dX2_nights_8 : decode cX2_nights 8 = .ok (.invokevirtual 36, 3) := by decide +kernel
theorem dX2_nights_11 : decode cX2_nights 11 = .ok (.ireturn, 1) := by decide +kernel
theorem dX2_nights_12 : decode cX2_nights 12 = .ok (.iload_n 1, 1) := by decide +kernel
theorem dX2_nights_13 : decode cX2_nights 13 = .ok (.bipush 60, 2) := by decide +kernel
theorem dX2_nights_15 : decode cX2_nights 15 = .ok (.if_icmp .gt 17, 3) := by decide +kernel
theorem dX2_nights_18 : decode cX2_nights 18 = .ok (.aload_n 0, 1) := by decide +kernel
theorem dX2_nights_19 : decode cX2_nights 19 = .ok (.getfield 9, 3) := by decide +kernel
theorem dX2_nights_22 : decode cX2_nights 22 = .ok (.iconst 2, 1) := by decide +kernel
theorem dX2_nights_23 : decode cX2_nights 23 = .ok (.iaload, 1) := by decide +kernel
theorem dX2_nights_24 : decode cX2_nights 24 = .ok (.iload_n 1, 1) := by decide +kernel
theorem dX2_nights_25 : decode cX2_nights 25 = .ok (.iadd, 1) := by decide +kernel
theorem dX2_nights_26 : decode cX2_nights 26 = .ok (.sipush 999, 3) := by decide +kernel
theorem dX2_nights_29 : decode cX2_nights 29 = .ok (.if_icmp .le 10, 3) := by decide +kernel
theorem dX2_nights_32 : decode cX2_nights 32 = .ok (.aload_n 0, 1) := by decide +kernel
theorem dX2_nights_33 : decode cX2_nights 33 = .ok (.bipush (-6), 2) := by decide +kernel
theorem dX2_nights_35 : decode cX2_nights 35 = .ok (.invokevirtual 36, 3) := by decide +kernel
theorem dX2_nights_38 : decode cX2_nights 38 = .ok (.ireturn, 1) := by decide +kernel
theorem dX2_nights_39 : decode cX2_nights 39 = .ok (.aload_n 0, 1) := by decide +kernel
theorem dX2_nights_40 : decode cX2_nights 40 = .ok (.getfield 9, 3) := by decide +kernel
theorem dX2_nights_43 : decode cX2_nights 43 = .ok (.iload_n 1, 1) := by decide +kernel
theorem dX2_nights_44 : decode cX2_nights 44 = .ok (.iconst (-1), 1) := by decide +kernel
theorem dX2_nights_45 : decode cX2_nights 45 = .ok (.invokestatic 128, 3) := by decide +kernel
theorem dX2_nights_48 : decode cX2_nights 48 = .ok (.aload_n 0, 1) := by decide +kernel
theorem dX2_nights_49 : decode cX2_nights 49 = .ok (.getfield 9, 3) := by decide +kernel
theorem dX2_nights_52 : decode cX2_nights 52 = .ok (.iconst 3, 1) := by decide +kernel
theorem dX2_nights_53 : decode cX2_nights 53 = .ok (.iaload, 1) := by decide +kernel
theorem dX2_nights_54 : decode cX2_nights 54 = .ok (.ireturn, 1) := by decide +kernel
theorem dX2_takes_0 : decode cX2_takes 0 = .ok (.aload_n 0, 1) := by decide +kernel
theorem dX2_takes_1 : decode cX2_takes 1 = .ok (.getfield 9, 3) := by decide +kernel
theorem dX2_takes_4 : decode cX2_takes 4 = .ok (.aload_n 0, 1) := by decide +kernel
theorem dX2_takes_5 : decode cX2_takes 5 = .ok (.getfield 13, 3) := by decide +kernel
theorem dX2_takes_8 : decode cX2_takes 8 = .ok (.invokestatic 134, 3) := by decide +kernel
theorem dX2_takes_11 : decode cX2_takes 11 = .ok (.aload_n 0, 1) := by decide +kernel
theorem dX2_takes_12 : decode cX2_takes 12 = .ok (.getfield 13, 3) := by decide +kernel
theorem dX2_takes_15 : decode cX2_takes 15 = .ok (.iload_n 1, 1) := by decide +kernel
theorem dX2_takes_16 : decode cX2_takes 16 = .ok (.iconst (-1), 1) := by decide +kernel
theorem dX2_takes_17 : decode cX2_takes 17 = .ok (.invokestatic 128, 3) := by decide +kernel
theorem dX2_takes_20 : decode cX2_takes 20 = .ok (.return_, 1) := by decide +kernel
theorem dX2_wordsThen_0 : decode cX2_wordsThen 0 = .ok (.aload_n 0, 1) := by decide +kernel
theorem dX2_wordsThen_1 : decode cX2_wordsThen 1 = .ok (.iload_n 1, 1) := by decide +kernel
theorem dX2_wordsThen_2 : decode cX2_wordsThen 2 = .ok (.invokevirtual 147, 3) := by decide +kernel
theorem dX2_wordsThen_5 : decode cX2_wordsThen 5 = .ok (.ifCond .eq 13, 3) := by decide +kernel
theorem dX2_wordsThen_8 : decode cX2_wordsThen 8 = .ok (.iload_n 2, 1) := by decide +kernel
theorem dX2_wordsThen_9 : decode cX2_wordsThen 9 = .ok (.iconst 0, 1) := by decide +kernel
theorem dX2_wordsThen_10 : decode cX2_wordsThen 10 = .ok (.bipush 60, 2) := by decide +kernel
theorem dX2_wordsThen_12 : decode cX2_wordsThen 12 = .ok (.invokestatic 153, 3) := by decide +kernel
theorem dX2_wordsThen_15 : decode cX2_wordsThen 15 = .ok (.goto 4, 3) := by decide +kernel
theorem dX2_wordsThen_18 : decode cX2_wordsThen 18 = .ok (.iconst (-1), 1) := by decide +kernel
theorem dX2_wordsThen_19 : decode cX2_wordsThen 19 = .ok (.istore_n 3, 1) := by decide +kernel
theorem dX2_wordsThen_20 : decode cX2_wordsThen 20 = .ok (.iload_n 3, 1) := by decide +kernel
theorem dX2_wordsThen_21 : decode cX2_wordsThen 21 = .ok (.ifCond .eq 9, 3) := by decide +kernel
theorem dX2_wordsThen_24 : decode cX2_wordsThen 24 = .ok (.aload_n 0, 1) := by decide +kernel
theorem dX2_wordsThen_25 : decode cX2_wordsThen 25 = .ok (.iload_n 3, 1) := by decide +kernel
theorem dX2_wordsThen_26 : decode cX2_wordsThen 26 = .ok (.invokevirtual 36, 3) := by decide +kernel
theorem dX2_wordsThen_29 : decode cX2_wordsThen 29 = .ok (.ireturn, 1) := by decide +kernel
theorem dX2_wordsThen_30 : decode cX2_wordsThen 30 = .ok (.aload_n 0, 1) := by decide +kernel
theorem dX2_wordsThen_31 : decode cX2_wordsThen 31 = .ok (.iload_n 2, 1) := by decide +kernel
theorem dX2_wordsThen_32 : decode cX2_wordsThen 32 = .ok (.invokevirtual 160, 3) := by decide +kernel
theorem dX2_wordsThen_35 : decode cX2_wordsThen 35 = .ok (.aload_n 0, 1) := by decide +kernel
theorem dX2_wordsThen_36 : decode cX2_wordsThen 36 = .ok (.getfield 13, 3) := by decide +kernel
theorem dX2_wordsThen_39 : decode cX2_wordsThen 39 = .ok (.iload_n 1, 1) := by decide +kernel
theorem dX2_wordsThen_40 : decode cX2_wordsThen 40 = .ok (.invokestatic 91, 3) := by decide +kernel
theorem dX2_wordsThen_43 : decode cX2_wordsThen 43 = .ok (.ireturn, 1) := by decide +kernel
theorem dX2_then_0 : decode cX2_then 0 = .ok (.iload_n 1, 1) := by decide +kernel
theorem dX2_then_1 : decode cX2_then 1 = .ok (.iconst 0, 1) := by decide +kernel
theorem dX2_then_2 : decode cX2_then 2 = .ok (.bipush 60, 2) := by decide +kernel
theorem dX2_then_4 : decode cX2_then 4 = .ok (.invokestatic 153, 3) := by decide +kernel
theorem dX2_then_7 : decode cX2_then 7 = .ok (.istore_n 3, 1) := by decide +kernel
theorem dX2_then_8 : decode cX2_then 8 = .ok (.iload_n 3, 1) := by decide +kernel
theorem dX2_then_9 : decode cX2_then 9 = .ok (.ifCond .ne 15, 3) := by decide +kernel
theorem dX2_then_12 : decode cX2_then 12 = .ok (.iload_n 2, 1) := by decide +kernel
theorem dX2_then_13 : decode cX2_then 13 = .ok (.iconst 0, 1) := by decide +kernel
theorem dX2_then_14 : decode cX2_then 14 = .ok (.iconst 1, 1) := by decide +kernel
theorem dX2_then_15 : decode cX2_then 15 = .ok (.invokestatic 40, 3) := by decide +kernel
theorem dX2_then_18 : decode cX2_then 18 = .ok (.ifCond .ne 6, 3) := by decide +kernel
theorem dX2_then_21 : decode cX2_then 21 = .ok (.bipush (-2), 2) := by decide +kernel
theorem dX2_then_23 : decode cX2_then 23 = .ok (.istore_n 3, 1) := by decide +kernel
theorem dX2_then_24 : decode cX2_then 24 = .ok (.iload_n 3, 1) := by decide +kernel
theorem dX2_then_25 : decode cX2_then 25 = .ok (.ifCond .eq 9, 3) := by decide +kernel
theorem dX2_then_28 : decode cX2_then 28 = .ok (.aload_n 0, 1) := by decide +kernel
theorem dX2_then_29 : decode cX2_then 29 = .ok (.iload_n 3, 1) := by decide +kernel
theorem dX2_then_30 : decode cX2_then 30 = .ok (.invokevirtual 36, 3) := by decide +kernel
theorem dX2_then_33 : decode cX2_then 33 = .ok (.ireturn, 1) := by decide +kernel
theorem dX2_then_34 : decode cX2_then 34 = .ok (.aload_n 0, 1) := by decide +kernel
theorem dX2_then_35 : decode cX2_then 35 = .ok (.iload_n 1, 1) := by decide +kernel
theorem dX2_then_36 : decode cX2_then 36 = .ok (.invokevirtual 160, 3) := by decide +kernel
theorem dX2_then_39 : decode cX2_then 39 = .ok (.iload_n 2, 1) := by decide +kernel
theorem dX2_then_40 : decode cX2_then 40 = .ok (.ifCond .ne 12, 3) := by decide +kernel
theorem dX2_then_43 : decode cX2_then 43 = .ok (.aload_n 0, 1) := by decide +kernel
theorem dX2_then_44 : decode cX2_then 44 = .ok (.getfield 13, 3) := by decide +kernel
theorem dX2_then_47 : decode cX2_then 47 = .ok (.iconst 3, 1) := by decide +kernel
theorem dX2_then_48 : decode cX2_then 48 = .ok (.iaload, 1) := by decide +kernel
theorem dX2_then_49 : decode cX2_then 49 = .ok (.goto 10, 3) := by decide +kernel
theorem dX2_then_52 : decode cX2_then 52 = .ok (.aload_n 0, 1) := by decide +kernel
theorem dX2_then_53 : decode cX2_then 53 = .ok (.getfield 13, 3) := by decide +kernel
theorem dX2_then_56 : decode cX2_then 56 = .ok (.invokestatic 150, 3) := by decide +kernel
theorem dX2_then_59 : decode cX2_then 59 = .ok (.ireturn, 1) := by decide +kernel
theorem dX2_wholeOf_0 : decode cX2_wholeOf 0 = .ok (.aload_n 0, 1) := by decide +kernel
theorem dX2_wholeOf_1 : decode cX2_wholeOf 1 = .ok (.getfield 9, 3) := by decide +kernel
theorem dX2_wholeOf_4 : decode cX2_wholeOf 4 = .ok (.aload_n 0, 1) := by decide +kernel
theorem dX2_wholeOf_5 : decode cX2_wholeOf 5 = .ok (.getfield 13, 3) := by decide +kernel
theorem dX2_wholeOf_8 : decode cX2_wholeOf 8 = .ok (.invokestatic 134, 3) := by decide +kernel
theorem dX2_wholeOf_11 : decode cX2_wholeOf 11 = .ok (.iconst 0, 1) := by decide +kernel
theorem dX2_wholeOf_12 : decode cX2_wholeOf 12 = .ok (.istore_n 2, 1) := by decide +kernel
theorem dX2_wholeOf_13 : decode cX2_wholeOf 13 = .ok (.iload_n 2, 1) := by decide +kernel
theorem dX2_wholeOf_14 : decode cX2_wholeOf 14 = .ok (.bipush 60, 2) := by decide +kernel
theorem dX2_wholeOf_16 : decode cX2_wholeOf 16 = .ok (.if_icmp .gt 32, 3) := by decide +kernel
theorem dX2_wholeOf_19 : decode cX2_wholeOf 19 = .ok (.aload_n 0, 1) := by decide +kernel
theorem dX2_wholeOf_20 : decode cX2_wholeOf 20 = .ok (.getfield 13, 3) := by decide +kernel
theorem dX2_wholeOf_23 : decode cX2_wholeOf 23 = .ok (.iload_n 1, 1) := by decide +kernel
theorem dX2_wholeOf_24 : decode cX2_wholeOf 24 = .ok (.invokestatic 91, 3) := by decide +kernel
theorem dX2_wholeOf_27 : decode cX2_wholeOf 27 = .ok (.bipush 63, 2) := by decide +kernel
theorem dX2_wholeOf_29 : decode cX2_wholeOf 29 = .ok (.if_icmp .ne 5, 3) := by decide +kernel
theorem dX2_wholeOf_32 : decode cX2_wholeOf 32 = .ok (.iload_n 2, 1) := by decide +kernel
theorem dX2_wholeOf_33 : decode cX2_wholeOf 33 = .ok (.ireturn, 1) := by decide +kernel
theorem dX2_wholeOf_34 : decode cX2_wholeOf 34 = .ok (.aload_n 0, 1) := by decide +kernel
theorem dX2_wholeOf_35 : decode cX2_wholeOf 35 = .ok (.getfield 13, 3) := by decide +kernel
theorem dX2_wholeOf_38 : decode cX2_wholeOf 38 = .ok (.iconst (-1), 1) := by decide +kernel
theorem dX2_wholeOf_39 : decode cX2_wholeOf 39 = .ok (.invokestatic 87, 3) := by decide +kernel
theorem dX2_wholeOf_42 : decode cX2_wholeOf 42 = .ok (.iinc 2 1, 3) := by decide +kernel
theorem dX2_wholeOf_45 : decode cX2_wholeOf 45 = .ok (.goto (-32), 3) := by decide +kernel
theorem dX2_wholeOf_48 : decode cX2_wholeOf 48 = .ok (.bipush (-9), 2) := by decide +kernel
theorem dX2_wholeOf_50 : decode cX2_wholeOf 50 = .ok (.ireturn, 1) := by decide +kernel
theorem dX2_firstWhole_0 : decode cX2_firstWhole 0 = .ok (.bipush (-9), 2) := by decide +kernel
theorem dX2_firstWhole_2 : decode cX2_firstWhole 2 = .ok (.istore_n 1, 1) := by decide +kernel
theorem dX2_firstWhole_3 : decode cX2_firstWhole 3 = .ok (.ldc 164, 2) := by decide +kernel
theorem dX2_firstWhole_5 : decode cX2_firstWhole 5 = .ok (.istore_n 2, 1) := by decide +kernel
theorem dX2_firstWhole_6 : decode cX2_firstWhole 6 = .ok (.iconst 0, 1) := by decide +kernel
theorem dX2_firstWhole_7 : decode cX2_firstWhole 7 = .ok (.istore_n 3, 1) := by decide +kernel
theorem dX2_firstWhole_8 : decode cX2_firstWhole 8 = .ok (.iload_n 3, 1) := by decide +kernel
theorem dX2_firstWhole_9 : decode cX2_firstWhole 9 = .ok (.aload_n 0, 1) := by decide +kernel
theorem dX2_firstWhole_10 : decode cX2_firstWhole 10 = .ok (.getfield 9, 3) := by decide +kernel
theorem dX2_firstWhole_13 : decode cX2_firstWhole 13 = .ok (.iconst 1, 1) := by decide +kernel
theorem dX2_firstWhole_14 : decode cX2_firstWhole 14 = .ok (.iaload, 1) := by decide +kernel
theorem dX2_firstWhole_15 : decode cX2_firstWhole 15 = .ok (.if_icmp .ge 35, 3) := by decide +kernel
theorem dX2_firstWhole_18 : decode cX2_firstWhole 18 = .ok (.aload_n 0, 1) := by decide +kernel
theorem dX2_firstWhole_19 : decode cX2_firstWhole 19 = .ok (.iload_n 3, 1) := by decide +kernel
theorem dX2_firstWhole_20 : decode cX2_firstWhole 20 = .ok (.invokevirtual 165, 3) := by decide +kernel
theorem dX2_firstWhole_23 : decode cX2_firstWhole 23 = .ok (.istore 4, 2) := by decide +kernel
theorem dX2_firstWhole_25 : decode cX2_firstWhole 25 = .ok (.iload 4, 2) := by decide +kernel
theorem dX2_firstWhole_27 : decode cX2_firstWhole 27 = .ok (.ifCond .lt 17, 3) := by decide +kernel
theorem dX2_firstWhole_30 : decode cX2_firstWhole 30 = .ok (.iload 4, 2) := by decide +kernel
theorem dX2_firstWhole_32 : decode cX2_firstWhole 32 = .ok (.iload_n 2, 1) := by decide +kernel
theorem dX2_firstWhole_33 : decode cX2_firstWhole 33 = .ok (.if_icmp .lt 6, 3) := by decide +kernel
theorem dX2_firstWhole_36 : decode cX2_firstWhole 36 = .ok (.goto 8, 3) := by decide +kernel
theorem dX2_firstWhole_39 : decode cX2_firstWhole 39 = .ok (.iload_n 3, 1) := by decide +kernel
theorem dX2_firstWhole_40 : decode cX2_firstWhole 40 = .ok (.istore_n 1, 1) := by decide +kernel
theorem dX2_firstWhole_41 : decode cX2_firstWhole 41 = .ok (.iload 4, 2) := by decide +kernel
theorem dX2_firstWhole_43 : decode cX2_firstWhole 43 = .ok (.istore_n 2, 1) := by decide +kernel
theorem dX2_firstWhole_44 : decode cX2_firstWhole 44 = .ok (.iinc 3 1, 3) := by decide +kernel
theorem dX2_firstWhole_47 : decode cX2_firstWhole 47 = .ok (.goto (-39), 3) := by decide +kernel
theorem dX2_firstWhole_50 : decode cX2_firstWhole 50 = .ok (.iload_n 1, 1) := by decide +kernel
theorem dX2_firstWhole_51 : decode cX2_firstWhole 51 = .ok (.ireturn, 1) := by decide +kernel
theorem dX2_whole_0 : decode cX2_whole 0 = .ok (.iload_n 1, 1) := by decide +kernel
theorem dX2_whole_1 : decode cX2_whole 1 = .ok (.iconst (-1), 1) := by decide +kernel
theorem dX2_whole_2 : decode cX2_whole 2 = .ok (.if_icmp .ne 10, 3) := by decide +kernel
theorem dX2_whole_5 : decode cX2_whole 5 = .ok (.aload_n 0, 1) := by decide +kernel
theorem dX2_whole_6 : decode cX2_whole 6 = .ok (.invokevirtual 168, 3) := by decide +kernel
theorem dX2_whole_9 : decode cX2_whole 9 = .ok (.goto 24, 3) := by decide +kernel
theorem dX2_whole_12 : decode cX2_whole 12 = .ok (.aload_n 0, 1) := by decide +kernel
theorem dX2_whole_13 : decode cX2_whole 13 = .ok (.iload_n 1, 1) := by decide +kernel
theorem dX2_whole_14 : decode cX2_whole 14 = .ok (.invokevirtual 147, 3) := by decide +kernel
theorem dX2_whole_17 : decode cX2_whole 17 = .ok (.ifCond .eq 11, 3) := by decide +kernel
theorem dX2_whole_20 : decode cX2_whole 20 = .ok (.aload_n 0, 1) := by decide +kernel
theorem dX2_whole_21 : decode cX2_whole 21 = .ok (.iload_n 1, 1) := by decide +kernel
theorem dX2_whole_22 : decode cX2_whole 22 = .ok (.invokevirtual 165, 3) := by decide +kernel
theorem dX2_whole_25 : decode cX2_whole 25 = .ok (.goto 8, 3) := by decide +kernel
theorem dX2_whole_28 : decode cX2_whole 28 = .ok (.aload_n 0, 1) := by decide +kernel
theorem dX2_whole_29 : decode cX2_whole 29 = .ok (.iconst (-1), 1) := by decide +kernel
theorem dX2_whole_30 : decode cX2_whole 30 = .ok (.invokevirtual 36, 3) := by decide +kernel
theorem dX2_whole_33 : decode cX2_whole 33 = .ok (.ireturn, 1) := by decide +kernel
theorem dX2_next_0 : decode cX2_next 0 = .ok (.iload_n 1, 1) := by decide +kernel
theorem dX2_next_1 : decode cX2_next 1 = .ok (.iconst 0, 1) := by decide +kernel
theorem dX2_next_2 : decode cX2_next 2 = .ok (.iconst 1, 1) := by decide +kernel
theorem dX2_next_3 : decode cX2_next 3 = .ok (.invokestatic 40, 3) := by decide +kernel
theorem dX2_next_6 : decode cX2_next 6 = .ok (.ifCond .ne 10, 3) := by decide +kernel
theorem dX2_next_9 : decode cX2_next 9 = .ok (.aload_n 0, 1) := by decide +kernel
theorem dX2_next_10 : decode cX2_next 10 = .ok (.bipush (-2), 2) := by decide +kernel
theorem dX2_next_12 : decode cX2_next 12 = .ok (.invokevirtual 36, 3) := by decide +kernel
theorem dX2_next_15 : decode cX2_next 15 = .ok (.ireturn, 1) := by decide +kernel
theorem dX2_next_16 : decode cX2_next 16 = .ok (.iload_n 1, 1) := by decide +kernel
theorem dX2_next_17 : decode cX2_next 17 = .ok (.ifCond .ne 11, 3) := by decide +kernel
theorem dX2_next_20 : decode cX2_next 20 = .ok (.aload_n 0, 1) := by decide +kernel
theorem dX2_next_21 : decode cX2_next 21 = .ok (.getfield 9, 3) := by decide +kernel
theorem dX2_next_24 : decode cX2_next 24 = .ok (.invokestatic 80, 3) := by decide +kernel
theorem dX2_next_27 : decode cX2_next 27 = .ok (.ireturn, 1) := by decide +kernel
theorem dX2_next_28 : decode cX2_next 28 = .ok (.aload_n 0, 1) := by decide +kernel
theorem dX2_next_29 : decode cX2_next 29 = .ok (.getfield 9, 3) := by decide +kernel
theorem dX2_next_32 : decode cX2_next 32 = .ok (.aload_n 0, 1) := by decide +kernel
theorem dX2_next_33 : decode cX2_next 33 = .ok (.getfield 13, 3) := by decide +kernel
theorem dX2_next_36 : decode cX2_next 36 = .ok (.invokestatic 134, 3) := by decide +kernel
theorem dX2_next_39 : decode cX2_next 39 = .ok (.iconst 0, 1) := by decide +kernel
theorem dX2_next_40 : decode cX2_next 40 = .ok (.istore_n 2, 1) := by decide +kernel
theorem dX2_next_41 : decode cX2_next 41 = .ok (.iload_n 2, 1) := by decide +kernel
theorem dX2_next_42 : decode cX2_next 42 = .ok (.bipush 60, 2) := by decide +kernel
theorem dX2_next_44 : decode cX2_next 44 = .ok (.if_icmp .gt 29, 3) := by decide +kernel
theorem dX2_next_47 : decode cX2_next 47 = .ok (.aload_n 0, 1) := by decide +kernel
theorem dX2_next_48 : decode cX2_next 48 = .ok (.getfield 13, 3) := by decide +kernel
theorem dX2_next_51 : decode cX2_next 51 = .ok (.invokestatic 80, 3) := by decide +kernel
theorem dX2_next_54 : decode cX2_next 54 = .ok (.ifCond .ge 5, 3) := by decide +kernel
theorem dX2_next_57 : decode cX2_next 57 = .ok (.iload_n 2, 1) := by decide +kernel
theorem dX2_next_58 : decode cX2_next 58 = .ok (.ireturn, 1) := by decide +kernel
theorem dX2_next_59 : decode cX2_next 59 = .ok (.aload_n 0, 1) := by decide +kernel
theorem dX2_next_60 : decode cX2_next 60 = .ok (.getfield 13, 3) := by decide +kernel
theorem dX2_next_63 : decode cX2_next 63 = .ok (.iconst (-1), 1) := by decide +kernel
theorem dX2_next_64 : decode cX2_next 64 = .ok (.invokestatic 87, 3) := by decide +kernel
theorem dX2_next_67 : decode cX2_next 67 = .ok (.iinc 2 1, 3) := by decide +kernel
theorem dX2_next_70 : decode cX2_next 70 = .ok (.goto (-29), 3) := by decide +kernel
theorem dX2_next_73 : decode cX2_next 73 = .ok (.bipush (-9), 2) := by decide +kernel
theorem dX2_next_75 : decode cX2_next 75 = .ok (.ireturn, 1) := by decide +kernel
theorem dX2_isWholeBy_0 : decode cX2_isWholeBy 0 = .ok (.aload_n 0, 1) := by decide +kernel
theorem dX2_isWholeBy_1 : decode cX2_isWholeBy 1 = .ok (.getfield 9, 3) := by decide +kernel
theorem dX2_isWholeBy_4 : decode cX2_isWholeBy 4 = .ok (.aload_n 0, 1) := by decide +kernel
theorem dX2_isWholeBy_5 : decode cX2_isWholeBy 5 = .ok (.getfield 13, 3) := by decide +kernel
theorem dX2_isWholeBy_8 : decode cX2_isWholeBy 8 = .ok (.invokestatic 134, 3) := by decide +kernel
theorem dX2_isWholeBy_11 : decode cX2_isWholeBy 11 = .ok (.iconst 0, 1) := by decide +kernel
theorem dX2_isWholeBy_12 : decode cX2_isWholeBy 12 = .ok (.istore_n 3, 1) := by decide +kernel
theorem dX2_isWholeBy_13 : decode cX2_isWholeBy 13 = .ok (.iload_n 3, 1) := by decide +kernel
theorem dX2_isWholeBy_14 : decode cX2_isWholeBy 14 = .ok (.aload_n 0, 1) := by decide +kernel
theorem dX2_isWholeBy_15 : decode cX2_isWholeBy 15 = .ok (.getfield 9, 3) := by decide +kernel
theorem dX2_isWholeBy_18 : decode cX2_isWholeBy 18 = .ok (.iconst 0, 1) := by decide +kernel
theorem dX2_isWholeBy_19 : decode cX2_isWholeBy 19 = .ok (.iaload, 1) := by decide +kernel
theorem dX2_isWholeBy_20 : decode cX2_isWholeBy 20 = .ok (.if_icmp .ge 26, 3) := by decide +kernel
theorem dX2_isWholeBy_23 : decode cX2_isWholeBy 23 = .ok (.iload_n 1, 1) := by decide +kernel
theorem dX2_isWholeBy_24 : decode cX2_isWholeBy 24 = .ok (.iload_n 3, 1) := by decide +kernel
theorem dX2_isWholeBy_25 : decode cX2_isWholeBy 25 = .ok (.invokestatic 65, 3) := by decide +kernel
theorem dX2_isWholeBy_28 : decode cX2_isWholeBy 28 = .ok (.ifCond .eq 12, 3) := by decide +kernel
theorem dX2_isWholeBy_31 : decode cX2_isWholeBy 31 = .ok (.aload_n 0, 1) := by decide +kernel
theorem dX2_isWholeBy_32 : decode cX2_isWholeBy 32 = .ok (.getfield 13, 3) := by decide +kernel
theorem dX2_isWholeBy_35 : decode cX2_isWholeBy 35 = .ok (.iload_n 3, 1) := by decide +kernel
theorem dX2_isWholeBy_36 : decode cX2_isWholeBy 36 = .ok (.iconst (-1), 1) := by decide +kernel
theorem dX2_isWholeBy_37 : decode cX2_isWholeBy 37 = .ok (.invokestatic 72, 3) := by decide +kernel
theorem dX2_isWholeBy_40 : decode cX2_isWholeBy 40 = .ok (.iinc 3 1, 3) := by decide +kernel
theorem dX2_isWholeBy_43 : decode cX2_isWholeBy 43 = .ok (.goto (-30), 3) := by decide +kernel
theorem dX2_isWholeBy_46 : decode cX2_isWholeBy 46 = .ok (.aload_n 0, 1) := by decide +kernel
theorem dX2_isWholeBy_47 : decode cX2_isWholeBy 47 = .ok (.getfield 13, 3) := by decide +kernel
theorem dX2_isWholeBy_50 : decode cX2_isWholeBy 50 = .ok (.iload_n 2, 1) := by decide +kernel
theorem dX2_isWholeBy_51 : decode cX2_isWholeBy 51 = .ok (.invokestatic 91, 3) := by decide +kernel
theorem dX2_isWholeBy_54 : decode cX2_isWholeBy 54 = .ok (.bipush 63, 2) := by decide +kernel
theorem dX2_isWholeBy_56 : decode cX2_isWholeBy 56 = .ok (.if_icmp .ne 7, 3) := by decide +kernel
theorem dX2_isWholeBy_59 : decode cX2_isWholeBy 59 = .ok (.iconst 1, 1) := by decide +kernel
theorem dX2_isWholeBy_60 : decode cX2_isWholeBy 60 = .ok (.goto 4, 3) := by decide +kernel
theorem dX2_isWholeBy_63 : decode cX2_isWholeBy 63 = .ok (.iconst 0, 1) := by decide +kernel
theorem dX2_isWholeBy_64 : decode cX2_isWholeBy 64 = .ok (.ireturn, 1) := by decide +kernel
theorem dX2_costOf_0 : decode cX2_costOf 0 = .ok (.iconst 0, 1) := by decide +kernel
theorem dX2_costOf_1 : decode cX2_costOf 1 = .ok (.istore_n 2, 1) := by decide +kernel
theorem dX2_costOf_2 : decode cX2_costOf 2 = .ok (.iconst 0, 1) := by decide +kernel
theorem dX2_costOf_3 : decode cX2_costOf 3 = .ok (.istore_n 3, 1) := by decide +kernel
theorem dX2_costOf_4 : decode cX2_costOf 4 = .ok (.iload_n 3, 1) := by decide +kernel
theorem dX2_costOf_5 : decode cX2_costOf 5 = .ok (.aload_n 0, 1) := by decide +kernel
theorem dX2_costOf_6 : decode cX2_costOf 6 = .ok (.getfield 9, 3) := by decide +kernel
theorem dX2_costOf_9 : decode cX2_costOf 9 = .ok (.iconst 0, 1) := by decide +kernel
theorem dX2_costOf_10 : decode cX2_costOf 10 = .ok (.iaload, 1) := by decide +kernel
theorem dX2_costOf_11 : decode cX2_costOf 11 = .ok (.if_icmp .ge 37, 3) := by decide +kernel
theorem dX2_costOf_14 : decode cX2_costOf 14 = .ok (.iload_n 2, 1) := by decide +kernel
theorem dX2_costOf_15 : decode cX2_costOf 15 = .ok (.iload_n 1, 1) := by decide +kernel
theorem dX2_costOf_16 : decode cX2_costOf 16 = .ok (.iload_n 3, 1) := by decide +kernel
theorem dX2_costOf_17 : decode cX2_costOf 17 = .ok (.invokestatic 65, 3) := by decide +kernel
theorem dX2_costOf_20 : decode cX2_costOf 20 = .ok (.ifCond .eq 19, 3) := by decide +kernel
theorem dX2_costOf_23 : decode cX2_costOf 23 = .ok (.aload_n 0, 1) := by decide +kernel
theorem dX2_costOf_24 : decode cX2_costOf 24 = .ok (.getfield 9, 3) := by decide +kernel
theorem dX2_costOf_27 : decode cX2_costOf 27 = .ok (.iload_n 3, 1) := by decide +kernel
theorem dX2_costOf_28 : decode cX2_costOf 28 = .ok (.iconst 0, 1) := by decide +kernel
theorem dX2_costOf_29 : decode cX2_costOf 29 = .ok (.invokestatic 44, 3) := by decide +kernel
theorem dX2_costOf_32 : decode cX2_costOf 32 = .ok (.iaload, 1) := by decide +kernel
theorem dX2_costOf_33 : decode cX2_costOf 33 = .ok (.invokestatic 69, 3) := by decide +kernel
theorem dX2_costOf_36 : decode cX2_costOf 36 = .ok (.goto 4, 3) := by decide +kernel
theorem dX2_costOf_39 : decode cX2_costOf 39 = .ok (.iconst 0, 1) := by decide +kernel
theorem dX2_costOf_40 : decode cX2_costOf 40 = .ok (.iadd, 1) := by decide +kernel
theorem dX2_costOf_41 : decode cX2_costOf 41 = .ok (.istore_n 2, 1) := by decide +kernel
theorem dX2_costOf_42 : decode cX2_costOf 42 = .ok (.iinc 3 1, 3) := by decide +kernel
theorem dX2_costOf_45 : decode cX2_costOf 45 = .ok (.goto (-41), 3) := by decide +kernel
theorem dX2_costOf_48 : decode cX2_costOf 48 = .ok (.iload_n 2, 1) := by decide +kernel
theorem dX2_costOf_49 : decode cX2_costOf 49 = .ok (.ireturn, 1) := by decide +kernel
theorem dX2_boxed_0 : decode cX2_boxed 0 = .ok (.iconst 1, 1) := by decide +kernel
theorem dX2_boxed_1 : decode cX2_boxed 1 = .ok (.aload_n 0, 1) := by decide +kernel
theorem dX2_boxed_2 : decode cX2_boxed 2 = .ok (.getfield 9, 3) := by decide +kernel
theorem dX2_boxed_5 : decode cX2_boxed 5 = .ok (.iconst 0, 1) := by decide +kernel
theorem dX2_boxed_6 : decode cX2_boxed 6 = .ok (.iaload, 1) := by decide +kernel
theorem dX2_boxed_7 : decode cX2_boxed 7 = .ok (.ishl, 1) := by decide +kernel
theorem dX2_boxed_8 : decode cX2_boxed 8 = .ok (.iconst 1, 1) := by decide +kernel
theorem dX2_boxed_9 : decode cX2_boxed 9 = .ok (.isub, 1) := by decide +kernel
theorem dX2_boxed_10 : decode cX2_boxed 10 = .ok (.aload_n 0, 1) := by decide +kernel
theorem dX2_boxed_11 : decode cX2_boxed 11 = .ok (.getfield 9, 3) := by decide +kernel
theorem dX2_boxed_14 : decode cX2_boxed 14 = .ok (.invokestatic 150, 3) := by decide +kernel
theorem dX2_boxed_17 : decode cX2_boxed 17 = .ok (.iconst (-1), 1) := by decide +kernel
theorem dX2_boxed_18 : decode cX2_boxed 18 = .ok (.ixor, 1) := by decide +kernel
theorem dX2_boxed_19 : decode cX2_boxed 19 = .ok (.iand, 1) := by decide +kernel
theorem dX2_boxed_20 : decode cX2_boxed 20 = .ok (.ireturn, 1) := by decide +kernel
theorem dX2_fewest_0 : decode cX2_fewest 0 = .ok (.aload_n 0, 1) := by decide +kernel
theorem dX2_fewest_1 : decode cX2_fewest 1 = .ok (.iload_n 1, 1) := by decide +kernel
theorem dX2_fewest_2 : decode cX2_fewest 2 = .ok (.invokevirtual 147, 3) := by decide +kernel
theorem dX2_fewest_5 : decode cX2_fewest 5 = .ok (.ifCond .ne 9, 3) := by decide +kernel
theorem dX2_fewest_8 : decode cX2_fewest 8 = .ok (.aload_n 0, 1) := by decide +kernel
theorem dX2_fewest_9 : decode cX2_fewest 9 = .ok (.iconst (-1), 1) := by decide +kernel
theorem dX2_fewest_10 : decode cX2_fewest 10 = .ok (.invokevirtual 36, 3) := by decide +kernel
theorem dX2_fewest_13 : decode cX2_fewest 13 = .ok (.ireturn, 1) := by decide +kernel
theorem dX2_fewest_14 : decode cX2_fewest 14 = .ok (.iload_n 2, 1) := by decide +kernel
theorem dX2_fewest_15 : decode cX2_fewest 15 = .ok (.iconst 0, 1) := by decide +kernel
theorem dX2_fewest_16 : decode cX2_fewest 16 = .ok (.iconst 1, 1) := by decide +kernel
theorem dX2_fewest_17 : decode cX2_fewest 17 = .ok (.invokestatic 40, 3) := by decide +kernel
theorem dX2_fewest_20 : decode cX2_fewest 20 = .ok (.ifCond .ne 10, 3) := by decide +kernel
theorem dX2_fewest_23 : decode cX2_fewest 23 = .ok (.aload_n 0, 1) := by decide +kernel
theorem dX2_fewest_24 : decode cX2_fewest 24 = .ok (.bipush (-2), 2) := by decide +kernel
theorem dX2_fewest_26 : decode cX2_fewest 26 = .ok (.invokevirtual 36, 3) := by decide +kernel
theorem dX2_fewest_29 : decode cX2_fewest 29 = .ok (.ireturn, 1) := by decide +kernel
theorem dX2_fewest_30 : decode cX2_fewest 30 = .ok (.bipush (-9), 2) := by decide +kernel
theorem dX2_fewest_32 : decode cX2_fewest 32 = .ok (.istore_n 3, 1) := by decide +kernel
theorem dX2_fewest_33 : decode cX2_fewest 33 = .ok (.ldc 164, 2) := by decide +kernel
theorem dX2_fewest_35 : decode cX2_fewest 35 = .ok (.istore 4, 2) := by decide +kernel
theorem dX2_fewest_37 : decode cX2_fewest 37 = .ok (.iconst 0, 1) := by decide +kernel
theorem dX2_fewest_38 : decode cX2_fewest 38 = .ok (.istore 5, 2) := by decide +kernel
theorem dX2_fewest_40 : decode cX2_fewest 40 = .ok (.iload 5, 2) := by decide +kernel
theorem dX2_fewest_42 : decode cX2_fewest 42 = .ok (.iconst 1, 1) := by decide +kernel
theorem dX2_fewest_43 : decode cX2_fewest 43 = .ok (.aload_n 0, 1) := by decide +kernel
theorem dX2_fewest_44 : decode cX2_fewest 44 = .ok (.getfield 9, 3) := by decide +kernel
theorem dX2_fewest_47 : decode cX2_fewest 47 = .ok (.iconst 0, 1) := by decide +kernel
theorem dX2_fewest_48 : decode cX2_fewest 48 = .ok (.iaload, 1) := by decide +kernel
theorem dX2_fewest_49 : decode cX2_fewest 49 = .ok (.ishl, 1) := by decide +kernel
theorem dX2_fewest_50 : decode cX2_fewest 50 = .ok (.if_icmp .ge 77, 3) := by decide +kernel
theorem dX2_fewest_53 : decode cX2_fewest 53 = .ok (.iload 5, 2) := by decide +kernel
theorem dX2_fewest_55 : decode cX2_fewest 55 = .ok (.aload_n 0, 1) := by decide +kernel
theorem dX2_fewest_56 : decode cX2_fewest 56 = .ok (.invokevirtual 171, 3) := by decide +kernel
theorem dX2_fewest_59 : decode cX2_fewest 59 = .ok (.iconst (-1), 1) := by decide +kernel
theorem dX2_fewest_60 : decode cX2_fewest 60 = .ok (.ixor, 1) := by decide +kernel
theorem dX2_fewest_61 : decode cX2_fewest 61 = .ok (.iand, 1) := by decide +kernel
theorem dX2_fewest_62 : decode cX2_fewest 62 = .ok (.ifCond .ne 59, 3) := by decide +kernel
theorem dX2_fewest_65 : decode cX2_fewest 65 = .ok (.aload_n 0, 1) := by decide +kernel
theorem dX2_fewest_66 : decode cX2_fewest 66 = .ok (.iload 5, 2) := by decide +kernel
theorem dX2_fewest_68 : decode cX2_fewest 68 = .ok (.iload_n 1, 1) := by decide +kernel
theorem dX2_fewest_69 : decode cX2_fewest 69 = .ok (.invokevirtual 174, 3) := by decide +kernel
theorem dX2_fewest_72 : decode cX2_fewest 72 = .ok (.ifCond .ne 6, 3) := by decide +kernel
theorem dX2_fewest_75 : decode cX2_fewest 75 = .ok (.goto 46, 3) := by decide +kernel
theorem dX2_fewest_78 : decode cX2_fewest 78 = .ok (.iload_n 3, 1) := by decide +kernel
theorem dX2_fewest_79 : decode cX2_fewest 79 = .ok (.ifCond .lt 15, 3) := by decide +kernel
theorem dX2_fewest_82 : decode cX2_fewest 82 = .ok (.iload 5, 2) := by decide +kernel
theorem dX2_fewest_84 : decode cX2_fewest 84 = .ok (.invokestatic 94, 3) := by decide +kernel
theorem dX2_fewest_87 : decode cX2_fewest 87 = .ok (.iload_n 3, 1) := by decide +kernel
theorem dX2_fewest_88 : decode cX2_fewest 88 = .ok (.invokestatic 94, 3) := by decide +kernel
theorem dX2_fewest_91 : decode cX2_fewest 91 = .ok (.if_icmp .ge 6, 3) := by decide +kernel
theorem dX2_fewest_94 : decode cX2_fewest 94 = .ok (.iload 5, 2) := by decide +kernel
theorem dX2_fewest_96 : decode cX2_fewest 96 = .ok (.istore_n 3, 1) := by decide +kernel
theorem dX2_fewest_97 : decode cX2_fewest 97 = .ok (.aload_n 0, 1) := by decide +kernel
theorem dX2_fewest_98 : decode cX2_fewest 98 = .ok (.iload 5, 2) := by decide +kernel
theorem dX2_fewest_100 : decode cX2_fewest 100 = .ok (.invokevirtual 177, 3) := by decide +kernel
theorem dX2_fewest_103 : decode cX2_fewest 103 = .ok (.iload 4, 2) := by decide +kernel
theorem dX2_fewest_105 : decode cX2_fewest 105 = .ok (.if_icmp .ge 12, 3) := by decide +kernel
theorem dX2_fewest_108 : decode cX2_fewest 108 = .ok (.aload_n 0, 1) := by decide +kernel
theorem dX2_fewest_109 : decode cX2_fewest 109 = .ok (.iload 5, 2) := by decide +kernel
theorem dX2_fewest_111 : decode cX2_fewest 111 = .ok (.invokevirtual 177, 3) := by decide +kernel
theorem dX2_fewest_114 : decode cX2_fewest 114 = .ok (.goto 5, 3) := by decide +kernel
theorem dX2_fewest_117 : decode cX2_fewest 117 = .ok (.iload 4, 2) := by decide +kernel
theorem dX2_fewest_119 : decode cX2_fewest 119 = .ok (.istore 4, 2) := by decide +kernel
theorem dX2_fewest_121 : decode cX2_fewest 121 = .ok (.iinc 5 1, 3) := by decide +kernel
theorem dX2_fewest_124 : decode cX2_fewest 124 = .ok (.goto (-84), 3) := by decide +kernel
theorem dX2_fewest_127 : decode cX2_fewest 127 = .ok (.iload_n 3, 1) := by decide +kernel
theorem dX2_fewest_128 : decode cX2_fewest 128 = .ok (.ifCond .lt 7, 3) := by decide +kernel
theorem dX2_fewest_131 : decode cX2_fewest 131 = .ok (.iload_n 2, 1) := by decide +kernel
theorem dX2_fewest_132 : decode cX2_fewest 132 = .ok (.ifCond .ne 7, 3) := by decide +kernel
theorem dX2_fewest_135 : decode cX2_fewest 135 = .ok (.iload_n 3, 1) := by decide +kernel
theorem dX2_fewest_136 : decode cX2_fewest 136 = .ok (.goto 5, 3) := by decide +kernel
theorem dX2_fewest_139 : decode cX2_fewest 139 = .ok (.iload 4, 2) := by decide +kernel
theorem dX2_fewest_141 : decode cX2_fewest 141 = .ok (.ireturn, 1) := by decide +kernel
theorem dX2_windBest_0 : decode cX2_windBest 0 = .ok (.iload_n 1, 1) := by decide +kernel
theorem dX2_windBest_1 : decode cX2_windBest 1 = .ok (.iconst 0, 1) := by decide +kernel
theorem dX2_windBest_2 : decode cX2_windBest 2 = .ok (.bipush 30, 2) := by decide +kernel
theorem dX2_windBest_4 : decode cX2_windBest 4 = .ok (.invokestatic 153, 3) := by decide +kernel
theorem dX2_windBest_7 : decode cX2_windBest 7 = .ok (.istore_n 3, 1) := by decide +kernel
theorem dX2_windBest_8 : decode cX2_windBest 8 = .ok (.iload_n 3, 1) := by decide +kernel
theorem dX2_windBest_9 : decode cX2_windBest 9 = .ok (.ifCond .ne 15, 3) := by decide +kernel
theorem dX2_windBest_12 : decode cX2_windBest 12 = .ok (.iload_n 2, 1) := by decide +kernel
theorem dX2_windBest_13 : decode cX2_windBest 13 = .ok (.iconst 0, 1) := by decide +kernel
theorem dX2_windBest_14 : decode cX2_windBest 14 = .ok (.iconst 1, 1) := by decide +kernel
theorem dX2_windBest_15 : decode cX2_windBest 15 = .ok (.invokestatic 40, 3) := by decide +kernel
theorem dX2_windBest_18 : decode cX2_windBest 18 = .ok (.ifCond .ne 6, 3) := by decide +kernel
theorem dX2_windBest_21 : decode cX2_windBest 21 = .ok (.bipush (-2), 2) := by decide +kernel
theorem dX2_windBest_23 : decode cX2_windBest 23 = .ok (.istore_n 3, 1) := by decide +kernel
theorem dX2_windBest_24 : decode cX2_windBest 24 = .ok (.iload_n 3, 1) := by decide +kernel
theorem dX2_windBest_25 : decode cX2_windBest 25 = .ok (.ifCond .eq 9, 3) := by decide +kernel
theorem dX2_windBest_28 : decode cX2_windBest 28 = .ok (.aload_n 0, 1) := by decide +kernel
theorem dX2_windBest_29 : decode cX2_windBest 29 = .ok (.iload_n 3, 1) := by decide +kernel
theorem dX2_windBest_30 : decode cX2_windBest 30 = .ok (.invokevirtual 36, 3) := by decide +kernel
theorem dX2_windBest_33 : decode cX2_windBest 33 = .ok (.ireturn, 1) := by decide +kernel
theorem dX2_windBest_34 : decode cX2_windBest 34 = .ok (.iconst 0, 1) := by decide +kernel
theorem dX2_windBest_35 : decode cX2_windBest 35 = .ok (.istore 4, 2) := by decide +kernel
theorem dX2_windBest_37 : decode cX2_windBest 37 = .ok (.iconst (-1), 1) := by decide +kernel
theorem dX2_windBest_38 : decode cX2_windBest 38 = .ok (.istore 5, 2) := by decide +kernel
theorem dX2_windBest_40 : decode cX2_windBest 40 = .ok (.iconst 0, 1) := by decide +kernel
theorem dX2_windBest_41 : decode cX2_windBest 41 = .ok (.istore 6, 2) := by decide +kernel
theorem dX2_windBest_43 : decode cX2_windBest 43 = .ok (.iload 6, 2) := by decide +kernel
theorem dX2_windBest_45 : decode cX2_windBest 45 = .ok (.bipush 10, 2) := by decide +kernel
theorem dX2_windBest_47 : decode cX2_windBest 47 = .ok (.if_icmp .ge 65, 3) := by decide +kernel
theorem dX2_windBest_50 : decode cX2_windBest 50 = .ok (.aload_n 0, 1) := by decide +kernel
theorem dX2_windBest_51 : decode cX2_windBest 51 = .ok (.getfield 9, 3) := by decide +kernel
theorem dX2_windBest_54 : decode cX2_windBest 54 = .ok (.aload_n 0, 1) := by decide +kernel
theorem dX2_windBest_55 : decode cX2_windBest 55 = .ok (.getfield 13, 3) := by decide +kernel
theorem dX2_windBest_58 : decode cX2_windBest 58 = .ok (.invokestatic 134, 3) := by decide +kernel
theorem dX2_windBest_61 : decode cX2_windBest 61 = .ok (.aload_n 0, 1) := by decide +kernel
theorem dX2_windBest_62 : decode cX2_windBest 62 = .ok (.getfield 13, 3) := by decide +kernel
theorem dX2_windBest_65 : decode cX2_windBest 65 = .ok (.iconst 4, 1) := by decide +kernel
theorem dX2_windBest_66 : decode cX2_windBest 66 = .ok (.iload 6, 2) := by decide +kernel
theorem dX2_windBest_68 : decode cX2_windBest 68 = .ok (.iastore, 1) := by decide +kernel
theorem dX2_windBest_69 : decode cX2_windBest 69 = .ok (.aload_n 0, 1) := by decide +kernel
theorem dX2_windBest_70 : decode cX2_windBest 70 = .ok (.getfield 13, 3) := by decide +kernel
theorem dX2_windBest_73 : decode cX2_windBest 73 = .ok (.iload_n 1, 1) := by decide +kernel
theorem dX2_windBest_74 : decode cX2_windBest 74 = .ok (.iconst (-1), 1) := by decide +kernel
theorem dX2_windBest_75 : decode cX2_windBest 75 = .ok (.invokestatic 128, 3) := by decide +kernel
theorem dX2_windBest_78 : decode cX2_windBest 78 = .ok (.aload_n 0, 1) := by decide +kernel
theorem dX2_windBest_79 : decode cX2_windBest 79 = .ok (.getfield 13, 3) := by decide +kernel
theorem dX2_windBest_82 : decode cX2_windBest 82 = .ok (.invokestatic 180, 3) := by decide +kernel
theorem dX2_windBest_85 : decode cX2_windBest 85 = .ok (.iload 5, 2) := by decide +kernel
theorem dX2_windBest_87 : decode cX2_windBest 87 = .ok (.if_icmp .gt 6, 3) := by decide +kernel
theorem dX2_windBest_90 : decode cX2_windBest 90 = .ok (.goto 16, 3) := by decide +kernel
theorem dX2_windBest_93 : decode cX2_windBest 93 = .ok (.iload 6, 2) := by decide +kernel
theorem dX2_windBest_95 : decode cX2_windBest 95 = .ok (.istore 4, 2) := by decide +kernel
theorem dX2_windBest_97 : decode cX2_windBest 97 = .ok (.aload_n 0, 1) := by decide +kernel
theorem dX2_windBest_98 : decode cX2_windBest 98 = .ok (.getfield 13, 3) := by decide +kernel
theorem dX2_windBest_101 : decode cX2_windBest 101 = .ok (.invokestatic 180, 3) := by decide +kernel
theorem dX2_windBest_104 : decode cX2_windBest 104 = .ok (.istore 5, 2) := by decide +kernel
theorem dX2_windBest_106 : decode cX2_windBest 106 = .ok (.iinc 6 1, 3) := by decide +kernel
theorem dX2_windBest_109 : decode cX2_windBest 109 = .ok (.goto (-66), 3) := by decide +kernel
theorem dX2_windBest_112 : decode cX2_windBest 112 = .ok (.iload_n 2, 1) := by decide +kernel
theorem dX2_windBest_113 : decode cX2_windBest 113 = .ok (.ifCond .ne 8, 3) := by decide +kernel
theorem dX2_windBest_116 : decode cX2_windBest 116 = .ok (.iload 4, 2) := by decide +kernel
theorem dX2_windBest_118 : decode cX2_windBest 118 = .ok (.goto 5, 3) := by decide +kernel
theorem dX2_windBest_121 : decode cX2_windBest 121 = .ok (.iload 5, 2) := by decide +kernel
theorem dX2_windBest_123 : decode cX2_windBest 123 = .ok (.ireturn, 1) := by decide +kernel
theorem dX2_move_0 : decode cX2_move 0 = .ok (.aload_n 0, 1) := by decide +kernel
theorem dX2_move_1 : decode cX2_move 1 = .ok (.iload_n 1, 1) := by decide +kernel
theorem dX2_move_2 : decode cX2_move 2 = .ok (.invokevirtual 147, 3) := by decide +kernel
theorem dX2_move_5 : decode cX2_move 5 = .ok (.ifCond .eq 13, 3) := by decide +kernel
theorem dX2_move_8 : decode cX2_move 8 = .ok (.iload_n 2, 1) := by decide +kernel
theorem dX2_move_9 : decode cX2_move 9 = .ok (.iconst 0, 1) := by decide +kernel
theorem dX2_move_10 : decode cX2_move 10 = .ok (.bipush 30, 2) := by decide +kernel
theorem dX2_move_12 : decode cX2_move 12 = .ok (.invokestatic 153, 3) := by decide +kernel
theorem dX2_move_15 : decode cX2_move 15 = .ok (.goto 4, 3) := by decide +kernel
theorem dX2_move_18 : decode cX2_move 18 = .ok (.iconst (-1), 1) := by decide +kernel
theorem dX2_move_19 : decode cX2_move 19 = .ok (.istore 4, 2) := by decide +kernel
theorem dX2_move_21 : decode cX2_move 21 = .ok (.iload 4, 2) := by decide +kernel
theorem dX2_move_23 : decode cX2_move 23 = .ok (.ifCond .ne 16, 3) := by decide +kernel
theorem dX2_move_26 : decode cX2_move 26 = .ok (.iload_n 3, 1) := by decide +kernel
theorem dX2_move_27 : decode cX2_move 27 = .ok (.iconst 0, 1) := by decide +kernel
theorem dX2_move_28 : decode cX2_move 28 = .ok (.iconst 1, 1) := by decide +kernel
theorem dX2_move_29 : decode cX2_move 29 = .ok (.invokestatic 40, 3) := by decide +kernel
theorem dX2_move_32 : decode cX2_move 32 = .ok (.ifCond .ne 7, 3) := by decide +kernel
theorem dX2_move_35 : decode cX2_move 35 = .ok (.bipush (-2), 2) := by decide +kernel
theorem dX2_move_37 : decode cX2_move 37 = .ok (.istore 4, 2) := by decide +kernel
theorem dX2_move_39 : decode cX2_move 39 = .ok (.iload 4, 2) := by decide +kernel
theorem dX2_move_41 : decode cX2_move 41 = .ok (.ifCond .eq 10, 3) := by decide +kernel
theorem dX2_move_44 : decode cX2_move 44 = .ok (.aload_n 0, 1) := by decide +kernel
theorem dX2_move_45 : decode cX2_move 45 = .ok (.iload 4, 2) := by decide +kernel
theorem dX2_move_47 : decode cX2_move 47 = .ok (.invokevirtual 36, 3) := by decide +kernel
theorem dX2_move_50 : decode cX2_move 50 = .ok (.ireturn, 1) := by decide +kernel
theorem dX2_move_51 : decode cX2_move 51 = .ok (.iconst 0, 1) := by decide +kernel
theorem dX2_move_52 : decode cX2_move 52 = .ok (.istore 5, 2) := by decide +kernel
theorem dX2_move_54 : decode cX2_move 54 = .ok (.iconst (-1), 1) := by decide +kernel
theorem dX2_move_55 : decode cX2_move 55 = .ok (.istore 6, 2) := by decide +kernel
theorem dX2_move_57 : decode cX2_move 57 = .ok (.iconst 0, 1) := by decide +kernel
theorem dX2_move_58 : decode cX2_move 58 = .ok (.istore 7, 2) := by decide +kernel
theorem dX2_move_60 : decode cX2_move 60 = .ok (.iload 7, 2) := by decide +kernel
theorem dX2_move_62 : decode cX2_move 62 = .ok (.bipush 20, 2) := by decide +kernel
theorem dX2_move_64 : decode cX2_move 64 = .ok (.if_icmp .ge 77, 3) := by decide +kernel
theorem dX2_move_67 : decode cX2_move 67 = .ok (.aload_n 0, 1) := by decide +kernel
theorem dX2_move_68 : decode cX2_move 68 = .ok (.getfield 9, 3) := by decide +kernel
theorem dX2_move_71 : decode cX2_move 71 = .ok (.aload_n 0, 1) := by decide +kernel
theorem dX2_move_72 : decode cX2_move 72 = .ok (.getfield 13, 3) := by decide +kernel
theorem dX2_move_75 : decode cX2_move 75 = .ok (.invokestatic 134, 3) := by decide +kernel
theorem dX2_move_78 : decode cX2_move 78 = .ok (.aload_n 0, 1) := by decide +kernel
theorem dX2_move_79 : decode cX2_move 79 = .ok (.getfield 13, 3) := by decide +kernel
theorem dX2_move_82 : decode cX2_move 82 = .ok (.iload_n 1, 1) := by decide +kernel
theorem dX2_move_83 : decode cX2_move 83 = .ok (.iconst 0, 1) := by decide +kernel
theorem dX2_move_84 : decode cX2_move 84 = .ok (.invokestatic 48, 3) := by decide +kernel
theorem dX2_move_87 : decode cX2_move 87 = .ok (.iload 7, 2) := by decide +kernel
theorem dX2_move_89 : decode cX2_move 89 = .ok (.iastore, 1) := by decide +kernel
theorem dX2_move_90 : decode cX2_move 90 = .ok (.aload_n 0, 1) := by decide +kernel
theorem dX2_move_91 : decode cX2_move 91 = .ok (.getfield 13, 3) := by decide +kernel
theorem dX2_move_94 : decode cX2_move 94 = .ok (.iload_n 2, 1) := by decide +kernel
theorem dX2_move_95 : decode cX2_move 95 = .ok (.iconst (-1), 1) := by decide +kernel
theorem dX2_move_96 : decode cX2_move 96 = .ok (.invokestatic 128, 3) := by decide +kernel
theorem dX2_move_99 : decode cX2_move 99 = .ok (.aload_n 0, 1) := by decide +kernel
theorem dX2_move_100 : decode cX2_move 100 = .ok (.getfield 13, 3) := by decide +kernel
theorem dX2_move_103 : decode cX2_move 103 = .ok (.iload_n 1, 1) := by decide +kernel
theorem dX2_move_104 : decode cX2_move 104 = .ok (.invokestatic 91, 3) := by decide +kernel
theorem dX2_move_107 : decode cX2_move 107 = .ok (.invokestatic 94, 3) := by decide +kernel
theorem dX2_move_110 : decode cX2_move 110 = .ok (.iload 6, 2) := by decide +kernel
theorem dX2_move_112 : decode cX2_move 112 = .ok (.if_icmp .gt 6, 3) := by decide +kernel
theorem dX2_move_115 : decode cX2_move 115 = .ok (.goto 20, 3) := by decide +kernel
theorem dX2_move_118 : decode cX2_move 118 = .ok (.iload 7, 2) := by decide +kernel
theorem dX2_move_120 : decode cX2_move 120 = .ok (.istore 5, 2) := by decide +kernel
theorem dX2_move_122 : decode cX2_move 122 = .ok (.aload_n 0, 1) := by decide +kernel
theorem dX2_move_123 : decode cX2_move 123 = .ok (.getfield 13, 3) := by decide +kernel
theorem dX2_move_126 : decode cX2_move 126 = .ok (.iload_n 1, 1) := by decide +kernel
theorem dX2_move_127 : decode cX2_move 127 = .ok (.invokestatic 91, 3) := by decide +kernel
theorem dX2_move_130 : decode cX2_move 130 = .ok (.invokestatic 94, 3) := by decide +kernel
theorem dX2_move_133 : decode cX2_move 133 = .ok (.istore 6, 2) := by decide +kernel
theorem dX2_move_135 : decode cX2_move 135 = .ok (.iinc 7 1, 3) := by decide +kernel
theorem dX2_move_138 : decode cX2_move 138 = .ok (.goto (-78), 3) := by decide +kernel
theorem dX2_move_141 : decode cX2_move 141 = .ok (.iload_n 3, 1) := by decide +kernel
theorem dX2_move_142 : decode cX2_move 142 = .ok (.ifCond .ne 8, 3) := by decide +kernel
theorem dX2_move_145 : decode cX2_move 145 = .ok (.iload 5, 2) := by decide +kernel
theorem dX2_move_147 : decode cX2_move 147 = .ok (.goto 5, 3) := by decide +kernel
theorem dX2_move_150 : decode cX2_move 150 = .ok (.iload 6, 2) := by decide +kernel
theorem dX2_move_152 : decode cX2_move 152 = .ok (.ireturn, 1) := by decide +kernel
theorem dX2_bestNow_0 : decode cX2_bestNow 0 = .ok (.aload_n 0, 1) := by decide +kernel
theorem dX2_bestNow_1 : decode cX2_bestNow 1 = .ok (.iload_n 1, 1) := by decide +kernel
theorem dX2_bestNow_2 : decode cX2_bestNow 2 = .ok (.invokevirtual 160, 3) := by decide +kernel
theorem dX2_bestNow_5 : decode cX2_bestNow 5 = .ok (.aload_n 0, 1) := by decide +kernel
theorem dX2_bestNow_6 : decode cX2_bestNow 6 = .ok (.getfield 13, 3) := by decide +kernel
theorem dX2_bestNow_9 : decode cX2_bestNow 9 = .ok (.invokestatic 183, 3) := by decide +kernel
theorem dX2_bestNow_12 : decode cX2_bestNow 12 = .ok (.istore_n 3, 1) := by decide +kernel
theorem dX2_bestNow_13 : decode cX2_bestNow 13 = .ok (.bipush (-9), 2) := by decide +kernel
theorem dX2_bestNow_15 : decode cX2_bestNow 15 = .ok (.istore 4, 2) := by decide +kernel
theorem dX2_bestNow_17 : decode cX2_bestNow 17 = .ok (.iconst 0, 1) := by decide +kernel
theorem dX2_bestNow_18 : decode cX2_bestNow 18 = .ok (.istore 5, 2) := by decide +kernel
theorem dX2_bestNow_20 : decode cX2_bestNow 20 = .ok (.iload 5, 2) := by decide +kernel
theorem dX2_bestNow_22 : decode cX2_bestNow 22 = .ok (.aload_n 0, 1) := by decide +kernel
theorem dX2_bestNow_23 : decode cX2_bestNow 23 = .ok (.getfield 9, 3) := by decide +kernel
theorem dX2_bestNow_26 : decode cX2_bestNow 26 = .ok (.iconst 0, 1) := by decide +kernel
theorem dX2_bestNow_27 : decode cX2_bestNow 27 = .ok (.iaload, 1) := by decide +kernel
theorem dX2_bestNow_28 : decode cX2_bestNow 28 = .ok (.if_icmp .ge 118, 3) := by decide +kernel
theorem dX2_bestNow_31 : decode cX2_bestNow 31 = .ok (.aload_n 0, 1) := by decide +kernel
theorem dX2_bestNow_32 : decode cX2_bestNow 32 = .ok (.getfield 9, 3) := by decide +kernel
theorem dX2_bestNow_35 : decode cX2_bestNow 35 = .ok (.iload 5, 2) := by decide +kernel
theorem dX2_bestNow_37 : decode cX2_bestNow 37 = .ok (.iconst 3, 1) := by decide +kernel
theorem dX2_bestNow_38 : decode cX2_bestNow 38 = .ok (.invokestatic 44, 3) := by decide +kernel
theorem dX2_bestNow_41 : decode cX2_bestNow 41 = .ok (.iaload, 1) := by decide +kernel
theorem dX2_bestNow_42 : decode cX2_bestNow 42 = .ok (.iconst 1, 1) := by decide +kernel
theorem dX2_bestNow_43 : decode cX2_bestNow 43 = .ok (.if_icmp .eq 97, 3) := by decide +kernel
theorem dX2_bestNow_46 : decode cX2_bestNow 46 = .ok (.iload_n 2, 1) := by decide +kernel
theorem dX2_bestNow_47 : decode cX2_bestNow 47 = .ok (.ifCond .ne 18, 3) := by decide +kernel
theorem dX2_bestNow_50 : decode cX2_bestNow 50 = .ok (.aload_n 0, 1) := by decide +kernel
theorem dX2_bestNow_51 : decode cX2_bestNow 51 = .ok (.getfield 9, 3) := by decide +kernel
theorem dX2_bestNow_54 : decode cX2_bestNow 54 = .ok (.iload 5, 2) := by decide +kernel
theorem dX2_bestNow_56 : decode cX2_bestNow 56 = .ok (.invokestatic 76, 3) := by decide +kernel
theorem dX2_bestNow_59 : decode cX2_bestNow 59 = .ok (.ifCond .ne 6, 3) := by decide +kernel
theorem dX2_bestNow_62 : decode cX2_bestNow 62 = .ok (.goto 78, 3) := by decide +kernel
theorem dX2_bestNow_65 : decode cX2_bestNow 65 = .ok (.aload_n 0, 1) := by decide +kernel
theorem dX2_bestNow_66 : decode cX2_bestNow 66 = .ok (.getfield 9, 3) := by decide +kernel
theorem dX2_bestNow_69 : decode cX2_bestNow 69 = .ok (.aload_n 0, 1) := by decide +kernel
theorem dX2_bestNow_70 : decode cX2_bestNow 70 = .ok (.getfield 13, 3) := by decide +kernel
theorem dX2_bestNow_73 : decode cX2_bestNow 73 = .ok (.invokestatic 134, 3) := by decide +kernel
theorem dX2_bestNow_76 : decode cX2_bestNow 76 = .ok (.iload_n 2, 1) := by decide +kernel
theorem dX2_bestNow_77 : decode cX2_bestNow 77 = .ok (.ifCond .eq 18, 3) := by decide +kernel
theorem dX2_bestNow_80 : decode cX2_bestNow 80 = .ok (.aload_n 0, 1) := by decide +kernel
theorem dX2_bestNow_81 : decode cX2_bestNow 81 = .ok (.getfield 13, 3) := by decide +kernel
theorem dX2_bestNow_84 : decode cX2_bestNow 84 = .ok (.iload 5, 2) := by decide +kernel
theorem dX2_bestNow_86 : decode cX2_bestNow 86 = .ok (.iconst 3, 1) := by decide +kernel
theorem dX2_bestNow_87 : decode cX2_bestNow 87 = .ok (.invokestatic 44, 3) := by decide +kernel
theorem dX2_bestNow_90 : decode cX2_bestNow 90 = .ok (.iconst 1, 1) := by decide +kernel
theorem dX2_bestNow_91 : decode cX2_bestNow 91 = .ok (.iastore, 1) := by decide +kernel
theorem dX2_bestNow_92 : decode cX2_bestNow 92 = .ok (.goto 13, 3) := by decide +kernel
theorem dX2_bestNow_95 : decode cX2_bestNow 95 = .ok (.aload_n 0, 1) := by decide +kernel
theorem dX2_bestNow_96 : decode cX2_bestNow 96 = .ok (.getfield 13, 3) := by decide +kernel
theorem dX2_bestNow_99 : decode cX2_bestNow 99 = .ok (.iload 5, 2) := by decide +kernel
theorem dX2_bestNow_101 : decode cX2_bestNow 101 = .ok (.iconst (-1), 1) := by decide +kernel
theorem dX2_bestNow_102 : decode cX2_bestNow 102 = .ok (.invokestatic 84, 3) := by decide +kernel
theorem dX2_bestNow_105 : decode cX2_bestNow 105 = .ok (.aload_n 0, 1) := by decide +kernel
theorem dX2_bestNow_106 : decode cX2_bestNow 106 = .ok (.getfield 13, 3) := by decide +kernel
theorem dX2_bestNow_109 : decode cX2_bestNow 109 = .ok (.iload_n 1, 1) := by decide +kernel
theorem dX2_bestNow_110 : decode cX2_bestNow 110 = .ok (.iconst (-1), 1) := by decide +kernel
theorem dX2_bestNow_111 : decode cX2_bestNow 111 = .ok (.invokestatic 128, 3) := by decide +kernel
theorem dX2_bestNow_114 : decode cX2_bestNow 114 = .ok (.aload_n 0, 1) := by decide +kernel
theorem dX2_bestNow_115 : decode cX2_bestNow 115 = .ok (.getfield 13, 3) := by decide +kernel
theorem dX2_bestNow_118 : decode cX2_bestNow 118 = .ok (.invokestatic 183, 3) := by decide +kernel
theorem dX2_bestNow_121 : decode cX2_bestNow 121 = .ok (.iload_n 3, 1) := by decide +kernel
theorem dX2_bestNow_122 : decode cX2_bestNow 122 = .ok (.if_icmp .gt 6, 3) := by decide +kernel
theorem dX2_bestNow_125 : decode cX2_bestNow 125 = .ok (.goto 15, 3) := by decide +kernel
theorem dX2_bestNow_128 : decode cX2_bestNow 128 = .ok (.iload 5, 2) := by decide +kernel
theorem dX2_bestNow_130 : decode cX2_bestNow 130 = .ok (.istore 4, 2) := by decide +kernel
theorem dX2_bestNow_132 : decode cX2_bestNow 132 = .ok (.aload_n 0, 1) := by decide +kernel
theorem dX2_bestNow_133 : decode cX2_bestNow 133 = .ok (.getfield 13, 3) := by decide +kernel
theorem dX2_bestNow_136 : decode cX2_bestNow 136 = .ok (.invokestatic 183, 3) := by decide +kernel
theorem dX2_bestNow_139 : decode cX2_bestNow 139 = .ok (.istore_n 3, 1) := by decide +kernel
theorem dX2_bestNow_140 : decode cX2_bestNow 140 = .ok (.iinc 5 1, 3) := by decide +kernel
theorem dX2_bestNow_143 : decode cX2_bestNow 143 = .ok (.goto (-123), 3) := by decide +kernel
theorem dX2_bestNow_146 : decode cX2_bestNow 146 = .ok (.iload 4, 2) := by decide +kernel
theorem dX2_bestNow_148 : decode cX2_bestNow 148 = .ok (.ireturn, 1) := by decide +kernel
theorem dX2_forgo_0 : decode cX2_forgo 0 = .ok (.iload_n 1, 1) := by decide +kernel
theorem dX2_forgo_1 : decode cX2_forgo 1 = .ok (.iconst 1, 1) := by decide +kernel
theorem dX2_forgo_2 : decode cX2_forgo 2 = .ok (.bipush 30, 2) := by decide +kernel
theorem dX2_forgo_4 : decode cX2_forgo 4 = .ok (.invokestatic 153, 3) := by decide +kernel
theorem dX2_forgo_7 : decode cX2_forgo 7 = .ok (.istore_n 2, 1) := by decide +kernel
theorem dX2_forgo_8 : decode cX2_forgo 8 = .ok (.iload_n 2, 1) := by decide +kernel
theorem dX2_forgo_9 : decode cX2_forgo 9 = .ok (.ifCond .eq 11, 3) := by decide +kernel
theorem dX2_forgo_12 : decode cX2_forgo 12 = .ok (.aload_n 0, 1) := by decide +kernel
theorem dX2_forgo_13 : decode cX2_forgo 13 = .ok (.iload_n 2, 1) := by decide +kernel
theorem dX2_forgo_14 : decode cX2_forgo 14 = .ok (.invokevirtual 36, 3) := by decide +kernel
theorem dX2_forgo_17 : decode cX2_forgo 17 = .ok (.goto 9, 3) := by decide +kernel
theorem dX2_forgo_20 : decode cX2_forgo 20 = .ok (.aload_n 0, 1) := by decide +kernel
theorem dX2_forgo_21 : decode cX2_forgo 21 = .ok (.iload_n 1, 1) := by decide +kernel
theorem dX2_forgo_22 : decode cX2_forgo 22 = .ok (.iconst 1, 1) := by decide +kernel
theorem dX2_forgo_23 : decode cX2_forgo 23 = .ok (.invokevirtual 186, 3) := by decide +kernel
theorem dX2_forgo_26 : decode cX2_forgo 26 = .ok (.ireturn, 1) := by decide +kernel
theorem dX2_firstUp_0 : decode cX2_firstUp 0 = .ok (.iload_n 1, 1) := by decide +kernel
theorem dX2_firstUp_1 : decode cX2_firstUp 1 = .ok (.iconst 1, 1) := by decide +kernel
theorem dX2_firstUp_2 : decode cX2_firstUp 2 = .ok (.bipush 30, 2) := by decide +kernel
theorem dX2_firstUp_4 : decode cX2_firstUp 4 = .ok (.invokestatic 153, 3) := by decide +kernel
theorem dX2_firstUp_7 : decode cX2_firstUp 7 = .ok (.istore_n 2, 1) := by decide +kernel
theorem dX2_firstUp_8 : decode cX2_firstUp 8 = .ok (.iload_n 2, 1) := by decide +kernel
theorem dX2_firstUp_9 : decode cX2_firstUp 9 = .ok (.ifCond .eq 11, 3) := by decide +kernel
theorem dX2_firstUp_12 : decode cX2_firstUp 12 = .ok (.aload_n 0, 1) := by decide +kernel
theorem dX2_firstUp_13 : decode cX2_firstUp 13 = .ok (.iload_n 2, 1) := by decide +kernel
theorem dX2_firstUp_14 : decode cX2_firstUp 14 = .ok (.invokevirtual 36, 3) := by decide +kernel
theorem dX2_firstUp_17 : decode cX2_firstUp 17 = .ok (.goto 9, 3) := by decide +kernel
theorem dX2_firstUp_20 : decode cX2_firstUp 20 = .ok (.aload_n 0, 1) := by decide +kernel
theorem dX2_firstUp_21 : decode cX2_firstUp 21 = .ok (.iload_n 1, 1) := by decide +kernel
theorem dX2_firstUp_22 : decode cX2_firstUp 22 = .ok (.iconst 0, 1) := by decide +kernel
theorem dX2_firstUp_23 : decode cX2_firstUp 23 = .ok (.invokevirtual 186, 3) := by decide +kernel
theorem dX2_firstUp_26 : decode cX2_firstUp 26 = .ok (.ireturn, 1) := by decide +kernel
theorem dX2_darkOf_0 : decode cX2_darkOf 0 = .ok (.aload_n 0, 1) := by decide +kernel
theorem dX2_darkOf_1 : decode cX2_darkOf 1 = .ok (.getfield 9, 3) := by decide +kernel
theorem dX2_darkOf_4 : decode cX2_darkOf 4 = .ok (.iload_n 1, 1) := by decide +kernel
theorem dX2_darkOf_5 : decode cX2_darkOf 5 = .ok (.iconst 0, 1) := by decide +kernel
theorem dX2_darkOf_6 : decode cX2_darkOf 6 = .ok (.invokestatic 44, 3) := by decide +kernel
theorem dX2_darkOf_9 : decode cX2_darkOf 9 = .ok (.iaload, 1) := by decide +kernel
theorem dX2_darkOf_10 : decode cX2_darkOf 10 = .ok (.aload_n 0, 1) := by decide +kernel
theorem dX2_darkOf_11 : decode cX2_darkOf 11 = .ok (.getfield 9, 3) := by decide +kernel
theorem dX2_darkOf_14 : decode cX2_darkOf 14 = .ok (.iload_n 1, 1) := by decide +kernel
theorem dX2_darkOf_15 : decode cX2_darkOf 15 = .ok (.iconst 1, 1) := by decide +kernel
theorem dX2_darkOf_16 : decode cX2_darkOf 16 = .ok (.invokestatic 44, 3) := by decide +kernel
theorem dX2_darkOf_19 : decode cX2_darkOf 19 = .ok (.iaload, 1) := by decide +kernel
theorem dX2_darkOf_20 : decode cX2_darkOf 20 = .ok (.invokestatic 141, 3) := by decide +kernel
theorem dX2_darkOf_23 : decode cX2_darkOf 23 = .ok (.ireturn, 1) := by decide +kernel
theorem dX2_longest_0 : decode cX2_longest 0 = .ok (.iload_n 1, 1) := by decide +kernel
theorem dX2_longest_1 : decode cX2_longest 1 = .ok (.iconst 0, 1) := by decide +kernel
theorem dX2_longest_2 : decode cX2_longest 2 = .ok (.iconst 1, 1) := by decide +kernel
theorem dX2_longest_3 : decode cX2_longest 3 = .ok (.invokestatic 40, 3) := by decide +kernel
theorem dX2_longest_6 : decode cX2_longest 6 = .ok (.ifCond .ne 10, 3) := by decide +kernel
theorem dX2_longest_9 : decode cX2_longest 9 = .ok (.aload_n 0, 1) := by decide +kernel
theorem dX2_longest_10 : decode cX2_longest 10 = .ok (.bipush (-2), 2) := by decide +kernel
theorem dX2_longest_12 : decode cX2_longest 12 = .ok (.invokevirtual 36, 3) := by decide +kernel
theorem dX2_longest_15 : decode cX2_longest 15 = .ok (.ireturn, 1) := by decide +kernel
theorem dX2_longest_16 : decode cX2_longest 16 = .ok (.iload_n 1, 1) := by decide +kernel
theorem dX2_longest_17 : decode cX2_longest 17 = .ok (.iconst 1, 1) := by decide +kernel
theorem dX2_longest_18 : decode cX2_longest 18 = .ok (.if_icmp .ne 12, 3) := by decide +kernel
theorem dX2_longest_21 : decode cX2_longest 21 = .ok (.aload_n 0, 1) := by decide +kernel
theorem dX2_longest_22 : decode cX2_longest 22 = .ok (.aload_n 0, 1) := by decide +kernel
theorem dX2_longest_23 : decode cX2_longest 23 = .ok (.invokevirtual 171, 3) := by decide +kernel
theorem dX2_longest_26 : decode cX2_longest 26 = .ok (.invokevirtual 177, 3) := by decide +kernel
theorem dX2_longest_29 : decode cX2_longest 29 = .ok (.ireturn, 1) := by decide +kernel
theorem dX2_longest_30 : decode cX2_longest 30 = .ok (.bipush (-9), 2) := by decide +kernel
theorem dX2_longest_32 : decode cX2_longest 32 = .ok (.istore_n 2, 1) := by decide +kernel
theorem dX2_longest_33 : decode cX2_longest 33 = .ok (.iconst 0, 1) := by decide +kernel
theorem dX2_longest_34 : decode cX2_longest 34 = .ok (.istore_n 3, 1) := by decide +kernel
theorem dX2_longest_35 : decode cX2_longest 35 = .ok (.iload_n 3, 1) := by decide +kernel
theorem dX2_longest_36 : decode cX2_longest 36 = .ok (.aload_n 0, 1) := by decide +kernel
theorem dX2_longest_37 : decode cX2_longest 37 = .ok (.getfield 9, 3) := by decide +kernel
theorem dX2_longest_40 : decode cX2_longest 40 = .ok (.iconst 0, 1) := by decide +kernel
theorem dX2_longest_41 : decode cX2_longest 41 = .ok (.iaload, 1) := by decide +kernel
theorem dX2_longest_42 : decode cX2_longest 42 = .ok (.if_icmp .ge 28, 3) := by decide +kernel
theorem dX2_longest_45 : decode cX2_longest 45 = .ok (.iload_n 2, 1) := by decide +kernel
theorem dX2_longest_46 : decode cX2_longest 46 = .ok (.ifCond .lt 16, 3) := by decide +kernel
theorem dX2_longest_49 : decode cX2_longest 49 = .ok (.aload_n 0, 1) := by decide +kernel
theorem dX2_longest_50 : decode cX2_longest 50 = .ok (.iload_n 3, 1) := by decide +kernel
theorem dX2_longest_51 : decode cX2_longest 51 = .ok (.invokevirtual 190, 3) := by decide +kernel
theorem dX2_longest_54 : decode cX2_longest 54 = .ok (.aload_n 0, 1) := by decide +kernel
theorem dX2_longest_55 : decode cX2_longest 55 = .ok (.iload_n 2, 1) := by decide +kernel
theorem dX2_longest_56 : decode cX2_longest 56 = .ok (.invokevirtual 190, 3) := by decide +kernel
theorem dX2_longest_59 : decode cX2_longest 59 = .ok (.if_icmp .le 5, 3) := by decide +kernel
theorem dX2_longest_62 : decode cX2_longest 62 = .ok (.iload_n 3, 1) := by decide +kernel
theorem dX2_longest_63 : decode cX2_longest 63 = .ok (.istore_n 2, 1) := by decide +kernel
theorem dX2_longest_64 : decode cX2_longest 64 = .ok (.iinc 3 1, 3) := by decide +kernel
theorem dX2_longest_67 : decode cX2_longest 67 = .ok (.goto (-32), 3) := by decide +kernel
theorem dX2_longest_70 : decode cX2_longest 70 = .ok (.iload_n 2, 1) := by decide +kernel
theorem dX2_longest_71 : decode cX2_longest 71 = .ok (.ireturn, 1) := by decide +kernel
theorem dX2_seen_0 : decode cX2_seen 0 = .ok (.iload_n 1, 1) := by decide +kernel
theorem dX2_seen_1 : decode cX2_seen 1 = .ok (.iconst 0, 1) := by decide +kernel
theorem dX2_seen_2 : decode cX2_seen 2 = .ok (.iconst 1, 1) := by decide +kernel
theorem dX2_seen_3 : decode cX2_seen 3 = .ok (.invokestatic 40, 3) := by decide +kernel
theorem dX2_seen_6 : decode cX2_seen 6 = .ok (.ifCond .ne 10, 3) := by decide +kernel
theorem dX2_seen_9 : decode cX2_seen 9 = .ok (.aload_n 0, 1) := by decide +kernel
theorem dX2_seen_10 : decode cX2_seen 10 = .ok (.bipush (-2), 2) := by decide +kernel
theorem dX2_seen_12 : decode cX2_seen 12 = .ok (.invokevirtual 36, 3) := by decide +kernel
theorem dX2_seen_15 : decode cX2_seen 15 = .ok (.ireturn, 1) := by decide +kernel
theorem dX2_seen_16 : decode cX2_seen 16 = .ok (.bipush (-9), 2) := by decide +kernel
theorem dX2_seen_18 : decode cX2_seen 18 = .ok (.istore_n 2, 1) := by decide +kernel
theorem dX2_seen_19 : decode cX2_seen 19 = .ok (.iconst 0, 1) := by decide +kernel
theorem dX2_seen_20 : decode cX2_seen 20 = .ok (.istore_n 3, 1) := by decide +kernel
theorem dX2_seen_21 : decode cX2_seen 21 = .ok (.iload_n 3, 1) := by decide +kernel
theorem dX2_seen_22 : decode cX2_seen 22 = .ok (.aload_n 0, 1) := by decide +kernel
theorem dX2_seen_23 : decode cX2_seen 23 = .ok (.getfield 9, 3) := by decide +kernel
theorem dX2_seen_26 : decode cX2_seen 26 = .ok (.iconst 0, 1) := by decide +kernel
theorem dX2_seen_27 : decode cX2_seen 27 = .ok (.iaload, 1) := by decide +kernel
theorem dX2_seen_28 : decode cX2_seen 28 = .ok (.if_icmp .ge 40, 3) := by decide +kernel
theorem dX2_seen_31 : decode cX2_seen 31 = .ok (.iload_n 2, 1) := by decide +kernel
theorem dX2_seen_32 : decode cX2_seen 32 = .ok (.ifCond .lt 28, 3) := by decide +kernel
theorem dX2_seen_35 : decode cX2_seen 35 = .ok (.aload_n 0, 1) := by decide +kernel
theorem dX2_seen_36 : decode cX2_seen 36 = .ok (.getfield 9, 3) := by decide +kernel
theorem dX2_seen_39 : decode cX2_seen 39 = .ok (.iload_n 3, 1) := by decide +kernel
theorem dX2_seen_40 : decode cX2_seen 40 = .ok (.invokestatic 144, 3) := by decide +kernel
theorem dX2_seen_43 : decode cX2_seen 43 = .ok (.invokestatic 94, 3) := by decide +kernel
theorem dX2_seen_46 : decode cX2_seen 46 = .ok (.aload_n 0, 1) := by decide +kernel
theorem dX2_seen_47 : decode cX2_seen 47 = .ok (.getfield 9, 3) := by decide +kernel
theorem dX2_seen_50 : decode cX2_seen 50 = .ok (.iload_n 2, 1) := by decide +kernel
theorem dX2_seen_51 : decode cX2_seen 51 = .ok (.invokestatic 144, 3) := by decide +kernel
theorem dX2_seen_54 : decode cX2_seen 54 = .ok (.invokestatic 94, 3) := by decide +kernel
theorem dX2_seen_57 : decode cX2_seen 57 = .ok (.if_icmp .le 5, 3) := by decide +kernel
theorem dX2_seen_60 : decode cX2_seen 60 = .ok (.iload_n 3, 1) := by decide +kernel
theorem dX2_seen_61 : decode cX2_seen 61 = .ok (.istore_n 2, 1) := by decide +kernel
theorem dX2_seen_62 : decode cX2_seen 62 = .ok (.iinc 3 1, 3) := by decide +kernel
theorem dX2_seen_65 : decode cX2_seen 65 = .ok (.goto (-44), 3) := by decide +kernel
theorem dX2_seen_68 : decode cX2_seen 68 = .ok (.iload_n 1, 1) := by decide +kernel
theorem dX2_seen_69 : decode cX2_seen 69 = .ok (.iconst 1, 1) := by decide +kernel
theorem dX2_seen_70 : decode cX2_seen 70 = .ok (.if_icmp .ne 7, 3) := by decide +kernel
theorem dX2_seen_73 : decode cX2_seen 73 = .ok (.iload_n 2, 1) := by decide +kernel
theorem dX2_seen_74 : decode cX2_seen 74 = .ok (.goto 22, 3) := by decide +kernel
theorem dX2_seen_77 : decode cX2_seen 77 = .ok (.iload_n 2, 1) := by decide +kernel
theorem dX2_seen_78 : decode cX2_seen 78 = .ok (.ifCond .ge 7, 3) := by decide +kernel
theorem dX2_seen_81 : decode cX2_seen 81 = .ok (.iconst 0, 1) := by decide +kernel
theorem dX2_seen_82 : decode cX2_seen 82 = .ok (.goto 14, 3) := by decide +kernel
theorem dX2_seen_85 : decode cX2_seen 85 = .ok (.aload_n 0, 1) := by decide +kernel
theorem dX2_seen_86 : decode cX2_seen 86 = .ok (.getfield 9, 3) := by decide +kernel
theorem dX2_seen_89 : decode cX2_seen 89 = .ok (.iload_n 2, 1) := by decide +kernel
theorem dX2_seen_90 : decode cX2_seen 90 = .ok (.invokestatic 144, 3) := by decide +kernel
theorem dX2_seen_93 : decode cX2_seen 93 = .ok (.invokestatic 94, 3) := by decide +kernel
theorem dX2_seen_96 : decode cX2_seen 96 = .ok (.ireturn, 1) := by decide +kernel
theorem dX2_manyWith_0 : decode cX2_manyWith 0 = .ok (.iconst 0, 1) := by decide +kernel
theorem dX2_manyWith_1 : decode cX2_manyWith 1 = .ok (.istore_n 2, 1) := by decide +kernel
theorem dX2_manyWith_2 : decode cX2_manyWith 2 = .ok (.iconst 0, 1) := by decide +kernel
theorem dX2_manyWith_3 : decode cX2_manyWith 3 = .ok (.istore_n 3, 1) := by decide +kernel
theorem dX2_manyWith_4 : decode cX2_manyWith 4 = .ok (.iload_n 3, 1) := by decide +kernel
theorem dX2_manyWith_5 : decode cX2_manyWith 5 = .ok (.aload_n 0, 1) := by decide +kernel
theorem dX2_manyWith_6 : decode cX2_manyWith 6 = .ok (.getfield 9, 3) := by decide +kernel
theorem dX2_manyWith_9 : decode cX2_manyWith 9 = .ok (.iconst 1, 1) := by decide +kernel
theorem dX2_manyWith_10 : decode cX2_manyWith 10 = .ok (.iaload, 1) := by decide +kernel
theorem dX2_manyWith_11 : decode cX2_manyWith 11 = .ok (.if_icmp .ge 32, 3) := by decide +kernel
theorem dX2_manyWith_14 : decode cX2_manyWith 14 = .ok (.iload_n 2, 1) := by decide +kernel
theorem dX2_manyWith_15 : decode cX2_manyWith 15 = .ok (.aload_n 0, 1) := by decide +kernel
theorem dX2_manyWith_16 : decode cX2_manyWith 16 = .ok (.getfield 9, 3) := by decide +kernel
theorem dX2_manyWith_19 : decode cX2_manyWith 19 = .ok (.iload_n 3, 1) := by decide +kernel
theorem dX2_manyWith_20 : decode cX2_manyWith 20 = .ok (.invokestatic 91, 3) := by decide +kernel
theorem dX2_manyWith_23 : decode cX2_manyWith 23 = .ok (.iload_n 1, 1) := by decide +kernel
theorem dX2_manyWith_24 : decode cX2_manyWith 24 = .ok (.invokestatic 65, 3) := by decide +kernel
theorem dX2_manyWith_27 : decode cX2_manyWith 27 = .ok (.ifCond .eq 7, 3) := by decide +kernel
theorem dX2_manyWith_30 : decode cX2_manyWith 30 = .ok (.iconst 1, 1) := by decide +kernel
theorem dX2_manyWith_31 : decode cX2_manyWith 31 = .ok (.goto 4, 3) := by decide +kernel
theorem dX2_manyWith_34 : decode cX2_manyWith 34 = .ok (.iconst 0, 1) := by decide +kernel
theorem dX2_manyWith_35 : decode cX2_manyWith 35 = .ok (.iadd, 1) := by decide +kernel
theorem dX2_manyWith_36 : decode cX2_manyWith 36 = .ok (.istore_n 2, 1) := by decide +kernel
theorem dX2_manyWith_37 : decode cX2_manyWith 37 = .ok (.iinc 3 1, 3) := by decide +kernel
theorem dX2_manyWith_40 : decode cX2_manyWith 40 = .ok (.goto (-36), 3) := by decide +kernel
theorem dX2_manyWith_43 : decode cX2_manyWith 43 = .ok (.iload_n 2, 1) := by decide +kernel
theorem dX2_manyWith_44 : decode cX2_manyWith 44 = .ok (.ireturn, 1) := by decide +kernel
theorem dX2_words_0 : decode cX2_words 0 = .ok (.iload_n 1, 1) := by decide +kernel
theorem dX2_words_1 : decode cX2_words 1 = .ok (.iconst 0, 1) := by decide +kernel
theorem dX2_words_2 : decode cX2_words 2 = .ok (.iconst 2, 1) := by decide +kernel
theorem dX2_words_3 : decode cX2_words 3 = .ok (.invokestatic 40, 3) := by decide +kernel
theorem dX2_words_6 : decode cX2_words 6 = .ok (.ifCond .ne 10, 3) := by decide +kernel
theorem dX2_words_9 : decode cX2_words 9 = .ok (.aload_n 0, 1) := by decide +kernel
theorem dX2_words_10 : decode cX2_words 10 = .ok (.bipush (-2), 2) := by decide +kernel
theorem dX2_words_12 : decode cX2_words 12 = .ok (.invokevirtual 36, 3) := by decide +kernel
theorem dX2_words_15 : decode cX2_words 15 = .ok (.ireturn, 1) := by decide +kernel
theorem dX2_words_16 : decode cX2_words 16 = .ok (.bipush 63, 2) := by decide +kernel
theorem dX2_words_18 : decode cX2_words 18 = .ok (.istore_n 2, 1) := by decide +kernel
theorem dX2_words_19 : decode cX2_words 19 = .ok (.bipush 63, 2) := by decide +kernel
theorem dX2_words_21 : decode cX2_words 21 = .ok (.istore_n 3, 1) := by decide +kernel
theorem dX2_words_22 : decode cX2_words 22 = .ok (.iconst 0, 1) := by decide +kernel
theorem dX2_words_23 : decode cX2_words 23 = .ok (.istore 4, 2) := by decide +kernel
theorem dX2_words_25 : decode cX2_words 25 = .ok (.iconst 0, 1) := by decide +kernel
theorem dX2_words_26 : decode cX2_words 26 = .ok (.istore 5, 2) := by decide +kernel
theorem dX2_words_28 : decode cX2_words 28 = .ok (.iload 5, 2) := by decide +kernel
theorem dX2_words_30 : decode cX2_words 30 = .ok (.aload_n 0, 1) := by decide +kernel
theorem dX2_words_31 : decode cX2_words 31 = .ok (.getfield 9, 3) := by decide +kernel
theorem dX2_words_34 : decode cX2_words 34 = .ok (.iconst 0, 1) := by decide +kernel
theorem dX2_words_35 : decode cX2_words 35 = .ok (.iaload, 1) := by decide +kernel
theorem dX2_words_36 : decode cX2_words 36 = .ok (.if_icmp .ge 27, 3) := by decide +kernel
theorem dX2_words_39 : decode cX2_words 39 = .ok (.iload_n 2, 1) := by decide +kernel
theorem dX2_words_40 : decode cX2_words 40 = .ok (.iconst 1, 1) := by decide +kernel
theorem dX2_words_41 : decode cX2_words 41 = .ok (.aload_n 0, 1) := by decide +kernel
theorem dX2_words_42 : decode cX2_words 42 = .ok (.getfield 9, 3) := by decide +kernel
theorem dX2_words_45 : decode cX2_words 45 = .ok (.iload 5, 2) := by decide +kernel
theorem dX2_words_47 : decode cX2_words 47 = .ok (.iconst 2, 1) := by decide +kernel
theorem dX2_words_48 : decode cX2_words 48 = .ok (.invokestatic 44, 3) := by decide +kernel
theorem dX2_words_51 : decode cX2_words 51 = .ok (.iaload, 1) := by decide +kernel
theorem dX2_words_52 : decode cX2_words 52 = .ok (.ishl, 1) := by decide +kernel
theorem dX2_words_53 : decode cX2_words 53 = .ok (.iconst (-1), 1) := by decide +kernel
theorem dX2_words_54 : decode cX2_words 54 = .ok (.ixor, 1) := by decide +kernel
theorem dX2_words_55 : decode cX2_words 55 = .ok (.iand, 1) := by decide +kernel
theorem dX2_words_56 : decode cX2_words 56 = .ok (.istore_n 2, 1) := by decide +kernel
theorem dX2_words_57 : decode cX2_words 57 = .ok (.iinc 5 1, 3) := by decide +kernel
theorem dX2_words_60 : decode cX2_words 60 = .ok (.goto (-32), 3) := by decide +kernel
theorem dX2_words_63 : decode cX2_words 63 = .ok (.iconst 0, 1) := by decide +kernel
theorem dX2_words_64 : decode cX2_words 64 = .ok (.istore 5, 2) := by decide +kernel
theorem dX2_words_66 : decode cX2_words 66 = .ok (.iload 5, 2) := by decide +kernel
theorem dX2_words_68 : decode cX2_words 68 = .ok (.aload_n 0, 1) := by decide +kernel
theorem dX2_words_69 : decode cX2_words 69 = .ok (.getfield 9, 3) := by decide +kernel
theorem dX2_words_72 : decode cX2_words 72 = .ok (.iconst 1, 1) := by decide +kernel
theorem dX2_words_73 : decode cX2_words 73 = .ok (.iaload, 1) := by decide +kernel
theorem dX2_words_74 : decode cX2_words 74 = .ok (.if_icmp .ge 21, 3) := by decide +kernel
theorem dX2_words_77 : decode cX2_words 77 = .ok (.iload_n 3, 1) := by decide +kernel
theorem dX2_words_78 : decode cX2_words 78 = .ok (.aload_n 0, 1) := by decide +kernel
theorem dX2_words_79 : decode cX2_words 79 = .ok (.getfield 9, 3) := by decide +kernel
theorem dX2_words_82 : decode cX2_words 82 = .ok (.iload 5, 2) := by decide +kernel
theorem dX2_words_84 : decode cX2_words 84 = .ok (.invokestatic 91, 3) := by decide +kernel
theorem dX2_words_87 : decode cX2_words 87 = .ok (.iand, 1) := by decide +kernel
theorem dX2_words_88 : decode cX2_words 88 = .ok (.istore_n 3, 1) := by decide +kernel
theorem dX2_words_89 : decode cX2_words 89 = .ok (.iinc 5 1, 3) := by decide +kernel
theorem dX2_words_92 : decode cX2_words 92 = .ok (.goto (-26), 3) := by decide +kernel
theorem dX2_words_95 : decode cX2_words 95 = .ok (.iconst 0, 1) := by decide +kernel
theorem dX2_words_96 : decode cX2_words 96 = .ok (.istore 5, 2) := by decide +kernel
theorem dX2_words_98 : decode cX2_words 98 = .ok (.iload 5, 2) := by decide +kernel
theorem dX2_words_100 : decode cX2_words 100 = .ok (.bipush 6, 2) := by decide +kernel
theorem dX2_words_102 : decode cX2_words 102 = .ok (.if_icmp .ge 28, 3) := by decide +kernel
theorem dX2_words_105 : decode cX2_words 105 = .ok (.aload_n 0, 1) := by decide +kernel
theorem dX2_words_106 : decode cX2_words 106 = .ok (.iload 5, 2) := by decide +kernel
theorem dX2_words_108 : decode cX2_words 108 = .ok (.invokevirtual 193, 3) := by decide +kernel
theorem dX2_words_111 : decode cX2_words 111 = .ok (.aload_n 0, 1) := by decide +kernel
theorem dX2_words_112 : decode cX2_words 112 = .ok (.iload 4, 2) := by decide +kernel
theorem dX2_words_114 : decode cX2_words 114 = .ok (.invokevirtual 193, 3) := by decide +kernel
theorem dX2_words_117 : decode cX2_words 117 = .ok (.if_icmp .ge 7, 3) := by decide +kernel
theorem dX2_words_120 : decode cX2_words 120 = .ok (.iload 5, 2) := by decide +kernel
theorem dX2_words_122 : decode cX2_words 122 = .ok (.istore 4, 2) := by decide +kernel
theorem dX2_words_124 : decode cX2_words 124 = .ok (.iinc 5 1, 3) := by decide +kernel
theorem dX2_words_127 : decode cX2_words 127 = .ok (.goto (-29), 3) := by decide +kernel
theorem dX2_words_130 : decode cX2_words 130 = .ok (.iload_n 1, 1) := by decide +kernel
theorem dX2_words_131 : decode cX2_words 131 = .ok (.ifCond .ne 7, 3) := by decide +kernel
theorem dX2_words_134 : decode cX2_words 134 = .ok (.iload_n 2, 1) := by decide +kernel
theorem dX2_words_135 : decode cX2_words 135 = .ok (.goto 14, 3) := by decide +kernel
theorem dX2_words_138 : decode cX2_words 138 = .ok (.iload_n 1, 1) := by decide +kernel
theorem dX2_words_139 : decode cX2_words 139 = .ok (.iconst 1, 1) := by decide +kernel
theorem dX2_words_140 : decode cX2_words 140 = .ok (.if_icmp .ne 7, 3) := by decide +kernel
theorem dX2_words_143 : decode cX2_words 143 = .ok (.iload_n 3, 1) := by decide +kernel
theorem dX2_words_144 : decode cX2_words 144 = .ok (.goto 5, 3) := by decide +kernel
theorem dX2_words_147 : decode cX2_words 147 = .ok (.iload 4, 2) := by decide +kernel
theorem dX2_words_149 : decode cX2_words 149 = .ok (.ireturn, 1) := by decide +kernel
theorem dX2_near_0 : decode cX2_near 0 = .ok (.bipush (-9), 2) := by decide +kernel
theorem dX2_near_2 : decode cX2_near 2 = .ok (.istore_n 1, 1) := by decide +kernel
theorem dX2_near_3 : decode cX2_near 3 = .ok (.iconst 0, 1) := by decide +kernel
theorem dX2_near_4 : decode cX2_near 4 = .ok (.istore_n 2, 1) := by decide +kernel
theorem dX2_near_5 : decode cX2_near 5 = .ok (.iload_n 2, 1) := by decide +kernel
theorem dX2_near_6 : decode cX2_near 6 = .ok (.aload_n 0, 1) := by decide +kernel
theorem dX2_near_7 : decode cX2_near 7 = .ok (.getfield 9, 3) := by decide +kernel
theorem dX2_near_10 : decode cX2_near 10 = .ok (.iconst 1, 1) := by decide +kernel
theorem dX2_near_11 : decode cX2_near 11 = .ok (.iaload, 1) := by decide +kernel
theorem dX2_near_12 : decode cX2_near 12 = .ok (.if_icmp .ge 48, 3) := by decide +kernel
theorem dX2_near_15 : decode cX2_near 15 = .ok (.iload_n 1, 1) := by decide +kernel
theorem dX2_near_16 : decode cX2_near 16 = .ok (.ifCond .lt 36, 3) := by decide +kernel
theorem dX2_near_19 : decode cX2_near 19 = .ok (.aload_n 0, 1) := by decide +kernel
theorem dX2_near_20 : decode cX2_near 20 = .ok (.getfield 9, 3) := by decide +kernel
theorem dX2_near_23 : decode cX2_near 23 = .ok (.iload_n 2, 1) := by decide +kernel
theorem dX2_near_24 : decode cX2_near 24 = .ok (.iconst 0, 1) := by decide +kernel
theorem dX2_near_25 : decode cX2_near 25 = .ok (.invokestatic 48, 3) := by decide +kernel
theorem dX2_near_28 : decode cX2_near 28 = .ok (.iaload, 1) := by decide +kernel
theorem dX2_near_29 : decode cX2_near 29 = .ok (.bipush 10, 2) := by decide +kernel
theorem dX2_near_31 : decode cX2_near 31 = .ok (.invokestatic 55, 3) := by decide +kernel
theorem dX2_near_34 : decode cX2_near 34 = .ok (.aload_n 0, 1) := by decide +kernel
theorem dX2_near_35 : decode cX2_near 35 = .ok (.getfield 9, 3) := by decide +kernel
theorem dX2_near_38 : decode cX2_near 38 = .ok (.iload_n 1, 1) := by decide +kernel
theorem dX2_near_39 : decode cX2_near 39 = .ok (.iconst 0, 1) := by decide +kernel
theorem dX2_near_40 : decode cX2_near 40 = .ok (.invokestatic 48, 3) := by decide +kernel
theorem dX2_near_43 : decode cX2_near 43 = .ok (.iaload, 1) := by decide +kernel
theorem dX2_near_44 : decode cX2_near 44 = .ok (.bipush 10, 2) := by decide +kernel
theorem dX2_near_46 : decode cX2_near 46 = .ok (.invokestatic 55, 3) := by decide +kernel
theorem dX2_near_49 : decode cX2_near 49 = .ok (.if_icmp .ge 5, 3) := by decide +kernel
theorem dX2_near_52 : decode cX2_near 52 = .ok (.iload_n 2, 1) := by decide +kernel
theorem dX2_near_53 : decode cX2_near 53 = .ok (.istore_n 1, 1) := by decide +kernel
theorem dX2_near_54 : decode cX2_near 54 = .ok (.iinc 2 1, 3) := by decide +kernel
theorem dX2_near_57 : decode cX2_near 57 = .ok (.goto (-52), 3) := by decide +kernel
theorem dX2_near_60 : decode cX2_near 60 = .ok (.iload_n 1, 1) := by decide +kernel
theorem dX2_near_61 : decode cX2_near 61 = .ok (.ireturn, 1) := by decide +kernel
theorem dX2_alone_0 : decode cX2_alone 0 = .ok (.iconst 0, 1) := by decide +kernel
theorem dX2_alone_1 : decode cX2_alone 1 = .ok (.istore_n 1, 1) := by decide +kernel
theorem dX2_alone_2 : decode cX2_alone 2 = .ok (.iconst 0, 1) := by decide +kernel
theorem dX2_alone_3 : decode cX2_alone 3 = .ok (.istore_n 2, 1) := by decide +kernel
theorem dX2_alone_4 : decode cX2_alone 4 = .ok (.iload_n 2, 1) := by decide +kernel
theorem dX2_alone_5 : decode cX2_alone 5 = .ok (.aload_n 0, 1) := by decide +kernel
theorem dX2_alone_6 : decode cX2_alone 6 = .ok (.getfield 9, 3) := by decide +kernel
theorem dX2_alone_9 : decode cX2_alone 9 = .ok (.iconst 1, 1) := by decide +kernel
theorem dX2_alone_10 : decode cX2_alone 10 = .ok (.iaload, 1) := by decide +kernel
theorem dX2_alone_11 : decode cX2_alone 11 = .ok (.if_icmp .ge 57, 3) := by decide +kernel
theorem dX2_alone_14 : decode cX2_alone 14 = .ok (.iconst 0, 1) := by decide +kernel
theorem dX2_alone_15 : decode cX2_alone 15 = .ok (.istore_n 3, 1) := by decide +kernel
theorem dX2_alone_16 : decode cX2_alone 16 = .ok (.iload_n 3, 1) := by decide +kernel
theorem dX2_alone_17 : decode cX2_alone 17 = .ok (.bipush 6, 2) := by decide +kernel
theorem dX2_alone_19 : decode cX2_alone 19 = .ok (.if_icmp .ge 43, 3) := by decide +kernel
theorem dX2_alone_22 : decode cX2_alone 22 = .ok (.iload_n 1, 1) := by decide +kernel
theorem dX2_alone_23 : decode cX2_alone 23 = .ok (.aload_n 0, 1) := by decide +kernel
theorem dX2_alone_24 : decode cX2_alone 24 = .ok (.getfield 9, 3) := by decide +kernel
theorem dX2_alone_27 : decode cX2_alone 27 = .ok (.iload_n 2, 1) := by decide +kernel
theorem dX2_alone_28 : decode cX2_alone 28 = .ok (.invokestatic 91, 3) := by decide +kernel
theorem dX2_alone_31 : decode cX2_alone 31 = .ok (.iload_n 3, 1) := by decide +kernel
theorem dX2_alone_32 : decode cX2_alone 32 = .ok (.invokestatic 65, 3) := by decide +kernel
theorem dX2_alone_35 : decode cX2_alone 35 = .ok (.ifCond .eq 18, 3) := by decide +kernel
theorem dX2_alone_38 : decode cX2_alone 38 = .ok (.aload_n 0, 1) := by decide +kernel
theorem dX2_alone_39 : decode cX2_alone 39 = .ok (.iload_n 3, 1) := by decide +kernel
theorem dX2_alone_40 : decode cX2_alone 40 = .ok (.invokevirtual 193, 3) := by decide +kernel
theorem dX2_alone_43 : decode cX2_alone 43 = .ok (.iconst 1, 1) := by decide +kernel
theorem dX2_alone_44 : decode cX2_alone 44 = .ok (.if_icmp .ne 9, 3) := by decide +kernel
theorem dX2_alone_47 : decode cX2_alone 47 = .ok (.iconst 1, 1) := by decide +kernel
theorem dX2_alone_48 : decode cX2_alone 48 = .ok (.iload_n 2, 1) := by decide +kernel
theorem dX2_alone_49 : decode cX2_alone 49 = .ok (.ishl, 1) := by decide +kernel
theorem dX2_alone_50 : decode cX2_alone 50 = .ok (.goto 4, 3) := by decide +kernel
theorem dX2_alone_53 : decode cX2_alone 53 = .ok (.iconst 0, 1) := by decide +kernel
theorem dX2_alone_54 : decode cX2_alone 54 = .ok (.ior, 1) := by decide +kernel
theorem dX2_alone_55 : decode cX2_alone 55 = .ok (.istore_n 1, 1) := by decide +kernel
theorem dX2_alone_56 : decode cX2_alone 56 = .ok (.iinc 3 1, 3) := by decide +kernel
theorem dX2_alone_59 : decode cX2_alone 59 = .ok (.goto (-43), 3) := by decide +kernel
theorem dX2_alone_62 : decode cX2_alone 62 = .ok (.iinc 2 1, 3) := by decide +kernel
theorem dX2_alone_65 : decode cX2_alone 65 = .ok (.goto (-61), 3) := by decide +kernel
theorem dX2_alone_68 : decode cX2_alone 68 = .ok (.iload_n 1, 1) := by decide +kernel
theorem dX2_alone_69 : decode cX2_alone 69 = .ok (.ireturn, 1) := by decide +kernel
theorem dX2_tell_0 : decode cX2_tell 0 = .ok (.aload_n 0, 1) := by decide +kernel
theorem dX2_tell_1 : decode cX2_tell 1 = .ok (.getfield 9, 3) := by decide +kernel
theorem dX2_tell_4 : decode cX2_tell 4 = .ok (.invokestatic 180, 3) := by decide +kernel
theorem dX2_tell_7 : decode cX2_tell 7 = .ok (.istore_n 1, 1) := by decide +kernel
theorem dX2_tell_8 : decode cX2_tell 8 = .ok (.bipush (-9), 2) := by decide +kernel
theorem dX2_tell_10 : decode cX2_tell 10 = .ok (.istore_n 2, 1) := by decide +kernel
theorem dX2_tell_11 : decode cX2_tell 11 = .ok (.iconst 0, 1) := by decide +kernel
theorem dX2_tell_12 : decode cX2_tell 12 = .ok (.istore_n 3, 1) := by decide +kernel
theorem dX2_tell_13 : decode cX2_tell 13 = .ok (.iload_n 3, 1) := by decide +kernel
theorem dX2_tell_14 : decode cX2_tell 14 = .ok (.aload_n 0, 1) := by decide +kernel
theorem dX2_tell_15 : decode cX2_tell 15 = .ok (.getfield 9, 3) := by decide +kernel
theorem dX2_tell_18 : decode cX2_tell 18 = .ok (.iconst 1, 1) := by decide +kernel
