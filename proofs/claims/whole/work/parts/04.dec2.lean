theorem dX1_whatSaid_16 : decode cX1_whatSaid 16 = .ok (.ireturn, 1) := by decide +kernel
theorem dX1_whatSaid_17 : decode cX1_whatSaid 17 = .ok (.iload_n 2, 1) := by decide +kernel
theorem dX1_whatSaid_18 : decode cX1_whatSaid 18 = .ok (.invokestatic 156, 3) := by decide +kernel
theorem dX1_whatSaid_21 : decode cX1_whatSaid 21 = .ok (.ifCond .ne 10, 3) := by decide +kernel
theorem dX1_whatSaid_24 : decode cX1_whatSaid 24 = .ok (.aload_n 0, 1) := by decide +kernel
theorem dX1_whatSaid_25 : decode cX1_whatSaid 25 = .ok (.bipush (-2), 2) := by decide +kernel
theorem dX1_whatSaid_27 : decode cX1_whatSaid 27 = .ok (.invokevirtual 52, 3) := by decide +kernel
theorem dX1_whatSaid_30 : decode cX1_whatSaid 30 = .ok (.ireturn, 1) := by decide +kernel
theorem dX1_whatSaid_31 : decode cX1_whatSaid 31 = .ok (.iconst 0, 1) := by decide +kernel
theorem dX1_whatSaid_32 : decode cX1_whatSaid 32 = .ok (.istore_n 3, 1) := by decide +kernel
theorem dX1_whatSaid_33 : decode cX1_whatSaid 33 = .ok (.iload_n 2, 1) := by decide +kernel
theorem dX1_whatSaid_34 : decode cX1_whatSaid 34 = .ok (.ifCond .ne 8, 3) := by decide +kernel
theorem dX1_whatSaid_37 : decode cX1_whatSaid 37 = .ok (.bipush 6, 2) := by decide +kernel
theorem dX1_whatSaid_39 : decode cX1_whatSaid 39 = .ok (.goto 5, 3) := by decide +kernel
theorem dX1_whatSaid_42 : decode cX1_whatSaid 42 = .ok (.bipush 6, 2) := by decide +kernel
theorem dX1_whatSaid_44 : decode cX1_whatSaid 44 = .ok (.istore 4, 2) := by decide +kernel
theorem dX1_whatSaid_46 : decode cX1_whatSaid 46 = .ok (.iconst 0, 1) := by decide +kernel
theorem dX1_whatSaid_47 : decode cX1_whatSaid 47 = .ok (.istore 5, 2) := by decide +kernel
theorem dX1_whatSaid_49 : decode cX1_whatSaid 49 = .ok (.iload 5, 2) := by decide +kernel
theorem dX1_whatSaid_51 : decode cX1_whatSaid 51 = .ok (.iload 4, 2) := by decide +kernel
theorem dX1_whatSaid_53 : decode cX1_whatSaid 53 = .ok (.if_icmp .ge 73, 3) := by decide +kernel
theorem dX1_whatSaid_56 : decode cX1_whatSaid 56 = .ok (.aload_n 0, 1) := by decide +kernel
theorem dX1_whatSaid_57 : decode cX1_whatSaid 57 = .ok (.getfield 16, 3) := by decide +kernel
theorem dX1_whatSaid_60 : decode cX1_whatSaid 60 = .ok (.aload_n 0, 1) := by decide +kernel
theorem dX1_whatSaid_61 : decode cX1_whatSaid 61 = .ok (.getfield 10, 3) := by decide +kernel
theorem dX1_whatSaid_64 : decode cX1_whatSaid 64 = .ok (.invokevirtual 59, 3) := by decide +kernel
theorem dX1_whatSaid_67 : decode cX1_whatSaid 67 = .ok (.iload_n 2, 1) := by decide +kernel
theorem dX1_whatSaid_68 : decode cX1_whatSaid 68 = .ok (.ifCond .ne 17, 3) := by decide +kernel
theorem dX1_whatSaid_71 : decode cX1_whatSaid 71 = .ok (.aload_n 0, 1) := by decide +kernel
theorem dX1_whatSaid_72 : decode cX1_whatSaid 72 = .ok (.getfield 16, 3) := by decide +kernel
theorem dX1_whatSaid_75 : decode cX1_whatSaid 75 = .ok (.getfield 79, 3) := by decide +kernel
theorem dX1_whatSaid_78 : decode cX1_whatSaid 78 = .ok (.iload_n 1, 1) := by decide +kernel
theorem dX1_whatSaid_79 : decode cX1_whatSaid 79 = .ok (.iload 5, 2) := by decide +kernel
theorem dX1_whatSaid_81 : decode cX1_whatSaid 81 = .ok (.iastore, 1) := by decide +kernel
theorem dX1_whatSaid_82 : decode cX1_whatSaid 82 = .ok (.goto 14, 3) := by decide +kernel
theorem dX1_whatSaid_85 : decode cX1_whatSaid 85 = .ok (.aload_n 0, 1) := by decide +kernel
theorem dX1_whatSaid_86 : decode cX1_whatSaid 86 = .ok (.getfield 16, 3) := by decide +kernel
theorem dX1_whatSaid_89 : decode cX1_whatSaid 89 = .ok (.getfield 73, 3) := by decide +kernel
theorem dX1_whatSaid_92 : decode cX1_whatSaid 92 = .ok (.iload_n 1, 1) := by decide +kernel
theorem dX1_whatSaid_93 : decode cX1_whatSaid 93 = .ok (.iload 5, 2) := by decide +kernel
theorem dX1_whatSaid_95 : decode cX1_whatSaid 95 = .ok (.iastore, 1) := by decide +kernel
theorem dX1_whatSaid_96 : decode cX1_whatSaid 96 = .ok (.aload_n 0, 1) := by decide +kernel
theorem dX1_whatSaid_97 : decode cX1_whatSaid 97 = .ok (.getfield 16, 3) := by decide +kernel
theorem dX1_whatSaid_100 : decode cX1_whatSaid 100 = .ok (.iload_n 1, 1) := by decide +kernel
theorem dX1_whatSaid_101 : decode cX1_whatSaid 101 = .ok (.bipush 31, 2) := by decide +kernel
theorem dX1_whatSaid_103 : decode cX1_whatSaid 103 = .ok (.invokevirtual 118, 3) := by decide +kernel
theorem dX1_whatSaid_106 : decode cX1_whatSaid 106 = .ok (.aload_n 0, 1) := by decide +kernel
theorem dX1_whatSaid_107 : decode cX1_whatSaid 107 = .ok (.invokevirtual 235, 3) := by decide +kernel
theorem dX1_whatSaid_110 : decode cX1_whatSaid 110 = .ok (.ifCond .eq 10, 3) := by decide +kernel
theorem dX1_whatSaid_113 : decode cX1_whatSaid 113 = .ok (.iload_n 3, 1) := by decide +kernel
theorem dX1_whatSaid_114 : decode cX1_whatSaid 114 = .ok (.iconst 1, 1) := by decide +kernel
theorem dX1_whatSaid_115 : decode cX1_whatSaid 115 = .ok (.iload 5, 2) := by decide +kernel
theorem dX1_whatSaid_117 : decode cX1_whatSaid 117 = .ok (.ishl, 1) := by decide +kernel
theorem dX1_whatSaid_118 : decode cX1_whatSaid 118 = .ok (.ior, 1) := by decide +kernel
theorem dX1_whatSaid_119 : decode cX1_whatSaid 119 = .ok (.istore_n 3, 1) := by decide +kernel
theorem dX1_whatSaid_120 : decode cX1_whatSaid 120 = .ok (.iinc 5 1, 3) := by decide +kernel
theorem dX1_whatSaid_123 : decode cX1_whatSaid 123 = .ok (.goto (-74), 3) := by decide +kernel
theorem dX1_whatSaid_126 : decode cX1_whatSaid 126 = .ok (.iload_n 3, 1) := by decide +kernel
theorem dX1_whatSaid_127 : decode cX1_whatSaid 127 = .ok (.ireturn, 1) := by decide +kernel
theorem dX1_row_0 : decode cX1_row 0 = .ok (.iload_n 1, 1) := by decide +kernel
theorem dX1_row_1 : decode cX1_row 1 = .ok (.iconst 0, 1) := by decide +kernel
theorem dX1_row_2 : decode cX1_row 2 = .ok (.bipush 99, 2) := by decide +kernel
theorem dX1_row_4 : decode cX1_row 4 = .ok (.invokestatic 140, 3) := by decide +kernel
theorem dX1_row_7 : decode cX1_row 7 = .ok (.istore_n 2, 1) := by decide +kernel
theorem dX1_row_8 : decode cX1_row 8 = .ok (.iload_n 2, 1) := by decide +kernel
theorem dX1_row_9 : decode cX1_row 9 = .ok (.ifCond .eq 9, 3) := by decide +kernel
theorem dX1_row_12 : decode cX1_row 12 = .ok (.aload_n 0, 1) := by decide +kernel
theorem dX1_row_13 : decode cX1_row 13 = .ok (.iload_n 2, 1) := by decide +kernel
theorem dX1_row_14 : decode cX1_row 14 = .ok (.invokevirtual 52, 3) := by decide +kernel
theorem dX1_row_17 : decode cX1_row 17 = .ok (.ireturn, 1) := by decide +kernel
theorem dX1_row_18 : decode cX1_row 18 = .ok (.aload_n 0, 1) := by decide +kernel
theorem dX1_row_19 : decode cX1_row 19 = .ok (.getfield 37, 3) := by decide +kernel
theorem dX1_row_22 : decode cX1_row 22 = .ok (.bipush 16, 2) := by decide +kernel
theorem dX1_row_24 : decode cX1_row 24 = .ok (.if_icmp .lt 10, 3) := by decide +kernel
theorem dX1_row_27 : decode cX1_row 27 = .ok (.aload_n 0, 1) := by decide +kernel
theorem dX1_row_28 : decode cX1_row 28 = .ok (.bipush (-6), 2) := by decide +kernel
theorem dX1_row_30 : decode cX1_row 30 = .ok (.invokevirtual 52, 3) := by decide +kernel
theorem dX1_row_33 : decode cX1_row 33 = .ok (.ireturn, 1) := by decide +kernel
theorem dX1_row_34 : decode cX1_row 34 = .ok (.aload_n 0, 1) := by decide +kernel
theorem dX1_row_35 : decode cX1_row 35 = .ok (.getfield 34, 3) := by decide +kernel
theorem dX1_row_38 : decode cX1_row 38 = .ok (.aload_n 0, 1) := by decide +kernel
theorem dX1_row_39 : decode cX1_row 39 = .ok (.getfield 37, 3) := by decide +kernel
theorem dX1_row_42 : decode cX1_row 42 = .ok (.iload_n 1, 1) := by decide +kernel
theorem dX1_row_43 : decode cX1_row 43 = .ok (.iastore, 1) := by decide +kernel
theorem dX1_row_44 : decode cX1_row 44 = .ok (.aload_n 0, 1) := by decide +kernel
theorem dX1_row_45 : decode cX1_row 45 = .ok (.dup, 1) := by decide +kernel
theorem dX1_row_46 : decode cX1_row 46 = .ok (.getfield 37, 3) := by decide +kernel
theorem dX1_row_49 : decode cX1_row 49 = .ok (.iconst 1, 1) := by decide +kernel
theorem dX1_row_50 : decode cX1_row 50 = .ok (.iadd, 1) := by decide +kernel
theorem dX1_row_51 : decode cX1_row 51 = .ok (.putfield 37, 3) := by decide +kernel
theorem dX1_row_54 : decode cX1_row 54 = .ok (.aload_n 0, 1) := by decide +kernel
theorem dX1_row_55 : decode cX1_row 55 = .ok (.getfield 37, 3) := by decide +kernel
theorem dX1_row_58 : decode cX1_row 58 = .ok (.ireturn, 1) := by decide +kernel
theorem dX1_judge_0 : decode cX1_judge 0 = .ok (.aload_n 0, 1) := by decide +kernel
theorem dX1_judge_1 : decode cX1_judge 1 = .ok (.getfield 37, 3) := by decide +kernel
theorem dX1_judge_4 : decode cX1_judge 4 = .ok (.istore_n 1, 1) := by decide +kernel
theorem dX1_judge_5 : decode cX1_judge 5 = .ok (.aload_n 0, 1) := by decide +kernel
theorem dX1_judge_6 : decode cX1_judge 6 = .ok (.iconst 0, 1) := by decide +kernel
theorem dX1_judge_7 : decode cX1_judge 7 = .ok (.putfield 37, 3) := by decide +kernel
theorem dX1_judge_10 : decode cX1_judge 10 = .ok (.aload_n 0, 1) := by decide +kernel
theorem dX1_judge_11 : decode cX1_judge 11 = .ok (.getfield 16, 3) := by decide +kernel
theorem dX1_judge_14 : decode cX1_judge 14 = .ok (.aload_n 0, 1) := by decide +kernel
theorem dX1_judge_15 : decode cX1_judge 15 = .ok (.getfield 10, 3) := by decide +kernel
theorem dX1_judge_18 : decode cX1_judge 18 = .ok (.invokevirtual 59, 3) := by decide +kernel
theorem dX1_judge_21 : decode cX1_judge 21 = .ok (.iconst 0, 1) := by decide +kernel
theorem dX1_judge_22 : decode cX1_judge 22 = .ok (.istore_n 2, 1) := by decide +kernel
theorem dX1_judge_23 : decode cX1_judge 23 = .ok (.iload_n 2, 1) := by decide +kernel
theorem dX1_judge_24 : decode cX1_judge 24 = .ok (.iload_n 1, 1) := by decide +kernel
theorem dX1_judge_25 : decode cX1_judge 25 = .ok (.if_icmp .ge 42, 3) := by decide +kernel
theorem dX1_judge_28 : decode cX1_judge 28 = .ok (.aload_n 0, 1) := by decide +kernel
theorem dX1_judge_29 : decode cX1_judge 29 = .ok (.getfield 34, 3) := by decide +kernel
theorem dX1_judge_32 : decode cX1_judge 32 = .ok (.iload_n 2, 1) := by decide +kernel
theorem dX1_judge_33 : decode cX1_judge 33 = .ok (.iaload, 1) := by decide +kernel
theorem dX1_judge_34 : decode cX1_judge 34 = .ok (.aload_n 0, 1) := by decide +kernel
theorem dX1_judge_35 : decode cX1_judge 35 = .ok (.getfield 16, 3) := by decide +kernel
theorem dX1_judge_38 : decode cX1_judge 38 = .ok (.getfield 122, 3) := by decide +kernel
theorem dX1_judge_41 : decode cX1_judge 41 = .ok (.bipush 99, 2) := by decide +kernel
theorem dX1_judge_43 : decode cX1_judge 43 = .ok (.invokestatic 239, 3) := by decide +kernel
theorem dX1_judge_46 : decode cX1_judge 46 = .ok (.if_icmp .eq 5, 3) := by decide +kernel
theorem dX1_judge_49 : decode cX1_judge 49 = .ok (.iload_n 2, 1) := by decide +kernel
theorem dX1_judge_50 : decode cX1_judge 50 = .ok (.ireturn, 1) := by decide +kernel
theorem dX1_judge_51 : decode cX1_judge 51 = .ok (.aload_n 0, 1) := by decide +kernel
theorem dX1_judge_52 : decode cX1_judge 52 = .ok (.getfield 16, 3) := by decide +kernel
theorem dX1_judge_55 : decode cX1_judge 55 = .ok (.iconst 1, 1) := by decide +kernel
theorem dX1_judge_56 : decode cX1_judge 56 = .ok (.bipush 31, 2) := by decide +kernel
theorem dX1_judge_58 : decode cX1_judge 58 = .ok (.invokevirtual 150, 3) := by decide +kernel
theorem dX1_judge_61 : decode cX1_judge 61 = .ok (.iinc 2 1, 3) := by decide +kernel
theorem dX1_judge_64 : decode cX1_judge 64 = .ok (.goto (-41), 3) := by decide +kernel
theorem dX1_judge_67 : decode cX1_judge 67 = .ok (.bipush (-9), 2) := by decide +kernel
theorem dX1_judge_69 : decode cX1_judge 69 = .ok (.ireturn, 1) := by decide +kernel
theorem dX1_clear_0 : decode cX1_clear 0 = .ok (.aload_n 0, 1) := by decide +kernel
theorem dX1_clear_1 : decode cX1_clear 1 = .ok (.getfield 37, 3) := by decide +kernel
theorem dX1_clear_4 : decode cX1_clear 4 = .ok (.istore_n 1, 1) := by decide +kernel
theorem dX1_clear_5 : decode cX1_clear 5 = .ok (.aload_n 0, 1) := by decide +kernel
theorem dX1_clear_6 : decode cX1_clear 6 = .ok (.iconst 0, 1) := by decide +kernel
theorem dX1_clear_7 : decode cX1_clear 7 = .ok (.putfield 37, 3) := by decide +kernel
theorem dX1_clear_10 : decode cX1_clear 10 = .ok (.iload_n 1, 1) := by decide +kernel
theorem dX1_clear_11 : decode cX1_clear 11 = .ok (.ireturn, 1) := by decide +kernel
theorem dX1_lots_0 : decode cX1_lots 0 = .ok (.iload_n 1, 1) := by decide +kernel
theorem dX1_lots_1 : decode cX1_lots 1 = .ok (.iconst 1, 1) := by decide +kernel
theorem dX1_lots_2 : decode cX1_lots 2 = .ok (.bipush 20, 2) := by decide +kernel
theorem dX1_lots_4 : decode cX1_lots 4 = .ok (.invokestatic 140, 3) := by decide +kernel
theorem dX1_lots_7 : decode cX1_lots 7 = .ok (.istore 4, 2) := by decide +kernel
theorem dX1_lots_9 : decode cX1_lots 9 = .ok (.iload 4, 2) := by decide +kernel
theorem dX1_lots_11 : decode cX1_lots 11 = .ok (.ifCond .eq 10, 3) := by decide +kernel
theorem dX1_lots_14 : decode cX1_lots 14 = .ok (.aload_n 0, 1) := by decide +kernel
theorem dX1_lots_15 : decode cX1_lots 15 = .ok (.iload 4, 2) := by decide +kernel
theorem dX1_lots_17 : decode cX1_lots 17 = .ok (.invokevirtual 52, 3) := by decide +kernel
theorem dX1_lots_20 : decode cX1_lots 20 = .ok (.ireturn, 1) := by decide +kernel
theorem dX1_lots_21 : decode cX1_lots 21 = .ok (.iload_n 3, 1) := by decide +kernel
theorem dX1_lots_22 : decode cX1_lots 22 = .ok (.invokestatic 156, 3) := by decide +kernel
theorem dX1_lots_25 : decode cX1_lots 25 = .ok (.ifCond .ne 10, 3) := by decide +kernel
theorem dX1_lots_28 : decode cX1_lots 28 = .ok (.aload_n 0, 1) := by decide +kernel
theorem dX1_lots_29 : decode cX1_lots 29 = .ok (.bipush (-2), 2) := by decide +kernel
theorem dX1_lots_31 : decode cX1_lots 31 = .ok (.invokevirtual 52, 3) := by decide +kernel
theorem dX1_lots_34 : decode cX1_lots 34 = .ok (.ireturn, 1) := by decide +kernel
theorem dX1_lots_35 : decode cX1_lots 35 = .ok (.iload_n 2, 1) := by decide +kernel
theorem dX1_lots_36 : decode cX1_lots 36 = .ok (.istore 5, 2) := by decide +kernel
theorem dX1_lots_38 : decode cX1_lots 38 = .ok (.iconst 0, 1) := by decide +kernel
theorem dX1_lots_39 : decode cX1_lots 39 = .ok (.istore 6, 2) := by decide +kernel
theorem dX1_lots_41 : decode cX1_lots 41 = .ok (.iconst 0, 1) := by decide +kernel
theorem dX1_lots_42 : decode cX1_lots 42 = .ok (.istore 7, 2) := by decide +kernel
theorem dX1_lots_44 : decode cX1_lots 44 = .ok (.iload 7, 2) := by decide +kernel
theorem dX1_lots_46 : decode cX1_lots 46 = .ok (.iload_n 1, 1) := by decide +kernel
theorem dX1_lots_47 : decode cX1_lots 47 = .ok (.if_icmp .ge 101, 3) := by decide +kernel
theorem dX1_lots_50 : decode cX1_lots 50 = .ok (.aload_n 0, 1) := by decide +kernel
theorem dX1_lots_51 : decode cX1_lots 51 = .ok (.getfield 16, 3) := by decide +kernel
theorem dX1_lots_54 : decode cX1_lots 54 = .ok (.aload_n 0, 1) := by decide +kernel
theorem dX1_lots_55 : decode cX1_lots 55 = .ok (.getfield 10, 3) := by decide +kernel
theorem dX1_lots_58 : decode cX1_lots 58 = .ok (.invokevirtual 59, 3) := by decide +kernel
theorem dX1_lots_61 : decode cX1_lots 61 = .ok (.iconst 0, 1) := by decide +kernel
theorem dX1_lots_62 : decode cX1_lots 62 = .ok (.istore 8, 2) := by decide +kernel
theorem dX1_lots_64 : decode cX1_lots 64 = .ok (.iload 8, 2) := by decide +kernel
theorem dX1_lots_66 : decode cX1_lots 66 = .ok (.bipush 8, 2) := by decide +kernel
theorem dX1_lots_68 : decode cX1_lots 68 = .ok (.if_icmp .ge 48, 3) := by decide +kernel
theorem dX1_lots_71 : decode cX1_lots 71 = .ok (.iload 5, 2) := by decide +kernel
theorem dX1_lots_73 : decode cX1_lots 73 = .ok (.ldc 242, 2) := by decide +kernel
theorem dX1_lots_75 : decode cX1_lots 75 = .ok (.imul, 1) := by decide +kernel
theorem dX1_lots_76 : decode cX1_lots 76 = .ok (.ldc 243, 2) := by decide +kernel
theorem dX1_lots_78 : decode cX1_lots 78 = .ok (.iadd, 1) := by decide +kernel
theorem dX1_lots_79 : decode cX1_lots 79 = .ok (.istore 5, 2) := by decide +kernel
theorem dX1_lots_81 : decode cX1_lots 81 = .ok (.aload_n 0, 1) := by decide +kernel
theorem dX1_lots_82 : decode cX1_lots 82 = .ok (.getfield 16, 3) := by decide +kernel
theorem dX1_lots_85 : decode cX1_lots 85 = .ok (.iload 5, 2) := by decide +kernel
theorem dX1_lots_87 : decode cX1_lots 87 = .ok (.ldc 244, 2) := by decide +kernel
theorem dX1_lots_89 : decode cX1_lots 89 = .ok (.iand, 1) := by decide +kernel
theorem dX1_lots_90 : decode cX1_lots 90 = .ok (.sipush 256, 3) := by decide +kernel
theorem dX1_lots_93 : decode cX1_lots 93 = .ok (.idiv, 1) := by decide +kernel
theorem dX1_lots_94 : decode cX1_lots 94 = .ok (.bipush 10, 2) := by decide +kernel
theorem dX1_lots_96 : decode cX1_lots 96 = .ok (.irem, 1) := by decide +kernel
theorem dX1_lots_97 : decode cX1_lots 97 = .ok (.putfield 144, 3) := by decide +kernel
theorem dX1_lots_100 : decode cX1_lots 100 = .ok (.aload_n 0, 1) := by decide +kernel
theorem dX1_lots_101 : decode cX1_lots 101 = .ok (.getfield 16, 3) := by decide +kernel
theorem dX1_lots_104 : decode cX1_lots 104 = .ok (.iconst 1, 1) := by decide +kernel
theorem dX1_lots_105 : decode cX1_lots 105 = .ok (.bipush 31, 2) := by decide +kernel
theorem dX1_lots_107 : decode cX1_lots 107 = .ok (.invokevirtual 150, 3) := by decide +kernel
theorem dX1_lots_110 : decode cX1_lots 110 = .ok (.iinc 8 1, 3) := by decide +kernel
theorem dX1_lots_113 : decode cX1_lots 113 = .ok (.goto (-49), 3) := by decide +kernel
theorem dX1_lots_116 : decode cX1_lots 116 = .ok (.iload 6, 2) := by decide +kernel
theorem dX1_lots_118 : decode cX1_lots 118 = .ok (.iload_n 3, 1) := by decide +kernel
theorem dX1_lots_119 : decode cX1_lots 119 = .ok (.ifCond .ne 13, 3) := by decide +kernel
theorem dX1_lots_122 : decode cX1_lots 122 = .ok (.aload_n 0, 1) := by decide +kernel
theorem dX1_lots_123 : decode cX1_lots 123 = .ok (.getfield 16, 3) := by decide +kernel
theorem dX1_lots_126 : decode cX1_lots 126 = .ok (.invokevirtual 181, 3) := by decide +kernel
theorem dX1_lots_129 : decode cX1_lots 129 = .ok (.goto 10, 3) := by decide +kernel
theorem dX1_lots_132 : decode cX1_lots 132 = .ok (.aload_n 0, 1) := by decide +kernel
theorem dX1_lots_133 : decode cX1_lots 133 = .ok (.getfield 16, 3) := by decide +kernel
theorem dX1_lots_136 : decode cX1_lots 136 = .ok (.invokevirtual 245, 3) := by decide +kernel
theorem dX1_lots_139 : decode cX1_lots 139 = .ok (.iadd, 1) := by decide +kernel
theorem dX1_lots_140 : decode cX1_lots 140 = .ok (.istore 6, 2) := by decide +kernel
theorem dX1_lots_142 : decode cX1_lots 142 = .ok (.iinc 7 1, 3) := by decide +kernel
theorem dX1_lots_145 : decode cX1_lots 145 = .ok (.goto (-101), 3) := by decide +kernel
theorem dX1_lots_148 : decode cX1_lots 148 = .ok (.iload 6, 2) := by decide +kernel
theorem dX1_lots_150 : decode cX1_lots 150 = .ok (.ireturn, 1) := by decide +kernel
theorem dX1_image_0 : decode cX1_image 0 = .ok (.aload_n 0, 1) := by decide +kernel
theorem dX1_image_1 : decode cX1_image 1 = .ok (.getfield 19, 3) := by decide +kernel
theorem dX1_image_4 : decode cX1_image 4 = .ok (.aload_n 0, 1) := by decide +kernel
theorem dX1_image_5 : decode cX1_image 5 = .ok (.getfield 10, 3) := by decide +kernel
theorem dX1_image_8 : decode cX1_image 8 = .ok (.invokevirtual 59, 3) := by decide +kernel
theorem dX1_image_11 : decode cX1_image 11 = .ok (.aload_n 0, 1) := by decide +kernel
theorem dX1_image_12 : decode cX1_image 12 = .ok (.iconst 1, 1) := by decide +kernel
theorem dX1_image_13 : decode cX1_image 13 = .ok (.putfield 22, 3) := by decide +kernel
theorem dX1_image_16 : decode cX1_image 16 = .ok (.aload_n 0, 1) := by decide +kernel
theorem dX1_image_17 : decode cX1_image 17 = .ok (.getfield 10, 3) := by decide +kernel
theorem dX1_image_20 : decode cX1_image 20 = .ok (.getfield 147, 3) := by decide +kernel
theorem dX1_image_23 : decode cX1_image 23 = .ok (.ireturn, 1) := by decide +kernel
theorem dX1_on_0 : decode cX1_on 0 = .ok (.aload_n 0, 1) := by decide +kernel
theorem dX1_on_1 : decode cX1_on 1 = .ok (.getfield 22, 3) := by decide +kernel
theorem dX1_on_4 : decode cX1_on 4 = .ok (.ifCond .ne 10, 3) := by decide +kernel
theorem dX1_on_7 : decode cX1_on 7 = .ok (.aload_n 0, 1) := by decide +kernel
theorem dX1_on_8 : decode cX1_on 8 = .ok (.bipush (-3), 2) := by decide +kernel
theorem dX1_on_10 : decode cX1_on 10 = .ok (.invokevirtual 52, 3) := by decide +kernel
theorem dX1_on_13 : decode cX1_on 13 = .ok (.ireturn, 1) := by decide +kernel
theorem dX1_on_14 : decode cX1_on 14 = .ok (.aload_n 0, 1) := by decide +kernel
theorem dX1_on_15 : decode cX1_on 15 = .ok (.getfield 10, 3) := by decide +kernel
theorem dX1_on_18 : decode cX1_on 18 = .ok (.aload_n 0, 1) := by decide +kernel
theorem dX1_on_19 : decode cX1_on 19 = .ok (.getfield 19, 3) := by decide +kernel
theorem dX1_on_22 : decode cX1_on 22 = .ok (.invokevirtual 59, 3) := by decide +kernel
theorem dX1_on_25 : decode cX1_on 25 = .ok (.aload_n 0, 1) := by decide +kernel
theorem dX1_on_26 : decode cX1_on 26 = .ok (.getfield 10, 3) := by decide +kernel
theorem dX1_on_29 : decode cX1_on 29 = .ok (.getfield 147, 3) := by decide +kernel
theorem dX1_on_32 : decode cX1_on 32 = .ok (.ireturn, 1) := by decide +kernel
theorem dX1_count_0 : decode cX1_count 0 = .ok (.iload_n 1, 1) := by decide +kernel
theorem dX1_count_1 : decode cX1_count 1 = .ok (.tableswitch 105 0 7 #[47, 55, 63, 71, 79, 87, 95, 100], 47) := by decide +kernel
theorem dX1_count_48 : decode cX1_count 48 = .ok (.aload_n 0, 1) := by decide +kernel
theorem dX1_count_49 : decode cX1_count 49 = .ok (.getfield 10, 3) := by decide +kernel
theorem dX1_count_52 : decode cX1_count 52 = .ok (.getfield 129, 3) := by decide +kernel
theorem dX1_count_55 : decode cX1_count 55 = .ok (.ireturn, 1) := by decide +kernel
theorem dX1_count_56 : decode cX1_count 56 = .ok (.aload_n 0, 1) := by decide +kernel
theorem dX1_count_57 : decode cX1_count 57 = .ok (.getfield 10, 3) := by decide +kernel
theorem dX1_count_60 : decode cX1_count 60 = .ok (.getfield 203, 3) := by decide +kernel
theorem dX1_count_63 : decode cX1_count 63 = .ok (.ireturn, 1) := by decide +kernel
theorem dX1_count_64 : decode cX1_count 64 = .ok (.aload_n 0, 1) := by decide +kernel
theorem dX1_count_65 : decode cX1_count 65 = .ok (.getfield 10, 3) := by decide +kernel
theorem dX1_count_68 : decode cX1_count 68 = .ok (.getfield 147, 3) := by decide +kernel
theorem dX1_count_71 : decode cX1_count 71 = .ok (.ireturn, 1) := by decide +kernel
theorem dX1_count_72 : decode cX1_count 72 = .ok (.aload_n 0, 1) := by decide +kernel
theorem dX1_count_73 : decode cX1_count 73 = .ok (.getfield 10, 3) := by decide +kernel
theorem dX1_count_76 : decode cX1_count 76 = .ok (.getfield 122, 3) := by decide +kernel
theorem dX1_count_79 : decode cX1_count 79 = .ok (.ireturn, 1) := by decide +kernel
theorem dX1_count_80 : decode cX1_count 80 = .ok (.aload_n 0, 1) := by decide +kernel
theorem dX1_count_81 : decode cX1_count 81 = .ok (.getfield 10, 3) := by decide +kernel
theorem dX1_count_84 : decode cX1_count 84 = .ok (.getfield 132, 3) := by decide +kernel
theorem dX1_count_87 : decode cX1_count 87 = .ok (.ireturn, 1) := by decide +kernel
theorem dX1_count_88 : decode cX1_count 88 = .ok (.aload_n 0, 1) := by decide +kernel
theorem dX1_count_89 : decode cX1_count 89 = .ok (.getfield 10, 3) := by decide +kernel
theorem dX1_count_92 : decode cX1_count 92 = .ok (.invokevirtual 245, 3) := by decide +kernel
theorem dX1_count_95 : decode cX1_count 95 = .ok (.ireturn, 1) := by decide +kernel
theorem dX1_count_96 : decode cX1_count 96 = .ok (.aload_n 0, 1) := by decide +kernel
theorem dX1_count_97 : decode cX1_count 97 = .ok (.getfield 37, 3) := by decide +kernel
theorem dX1_count_100 : decode cX1_count 100 = .ok (.ireturn, 1) := by decide +kernel
theorem dX1_count_101 : decode cX1_count 101 = .ok (.aload_n 0, 1) := by decide +kernel
theorem dX1_count_102 : decode cX1_count 102 = .ok (.getfield 30, 3) := by decide +kernel
theorem dX1_count_105 : decode cX1_count 105 = .ok (.ireturn, 1) := by decide +kernel
theorem dX1_count_106 : decode cX1_count 106 = .ok (.aload_n 0, 1) := by decide +kernel
theorem dX1_count_107 : decode cX1_count 107 = .ok (.iload_n 1, 1) := by decide +kernel
theorem dX1_count_108 : decode cX1_count 108 = .ok (.bipush 10, 2) := by decide +kernel
theorem dX1_count_110 : decode cX1_count 110 = .ok (.isub, 1) := by decide +kernel
theorem dX1_count_111 : decode cX1_count 111 = .ok (.invokevirtual 248, 3) := by decide +kernel
theorem dX1_count_114 : decode cX1_count 114 = .ok (.ireturn, 1) := by decide +kernel
theorem dX1_refuse_0 : decode cX1_refuse 0 = .ok (.iload_n 1, 1) := by decide +kernel
theorem dX1_refuse_1 : decode cX1_refuse 1 = .ok (.ifCond .ge 20, 3) := by decide +kernel
theorem dX1_refuse_4 : decode cX1_refuse 4 = .ok (.iload_n 1, 1) := by decide +kernel
theorem dX1_refuse_5 : decode cX1_refuse 5 = .ok (.bipush (-6), 2) := by decide +kernel
theorem dX1_refuse_7 : decode cX1_refuse 7 = .ok (.if_icmp .lt 14, 3) := by decide +kernel
theorem dX1_refuse_10 : decode cX1_refuse 10 = .ok (.aload_n 0, 1) := by decide +kernel
theorem dX1_refuse_11 : decode cX1_refuse 11 = .ok (.getfield 40, 3) := by decide +kernel
theorem dX1_refuse_14 : decode cX1_refuse 14 = .ok (.iload_n 1, 1) := by decide +kernel
theorem dX1_refuse_15 : decode cX1_refuse 15 = .ok (.ineg, 1) := by decide +kernel
theorem dX1_refuse_16 : decode cX1_refuse 16 = .ok (.dup2, 1) := by decide +kernel
theorem dX1_refuse_17 : decode cX1_refuse 17 = .ok (.iaload, 1) := by decide +kernel
theorem dX1_refuse_18 : decode cX1_refuse 18 = .ok (.iconst 1, 1) := by decide +kernel
theorem dX1_refuse_19 : decode cX1_refuse 19 = .ok (.iadd, 1) := by decide +kernel
theorem dX1_refuse_20 : decode cX1_refuse 20 = .ok (.iastore, 1) := by decide +kernel
theorem dX1_refuse_21 : decode cX1_refuse 21 = .ok (.iload_n 1, 1) := by decide +kernel
theorem dX1_refuse_22 : decode cX1_refuse 22 = .ok (.ireturn, 1) := by decide +kernel
theorem dX1_refuseLong_0 : decode cX1_refuseLong 0 = .ok (.ldc2_w 251, 3) := by decide +kernel
theorem dX1_refuseLong_3 : decode cX1_refuseLong 3 = .ok (.aload_n 0, 1) := by decide +kernel
theorem dX1_refuseLong_4 : decode cX1_refuseLong 4 = .ok (.iload_n 1, 1) := by decide +kernel
theorem dX1_refuseLong_5 : decode cX1_refuseLong 5 = .ok (.invokevirtual 52, 3) := by decide +kernel
theorem dX1_refuseLong_8 : decode cX1_refuseLong 8 = .ok (.i2l, 1) := by decide +kernel
theorem dX1_refuseLong_9 : decode cX1_refuseLong 9 = .ok (.lsub, 1) := by decide +kernel
theorem dX1_refuseLong_10 : decode cX1_refuseLong 10 = .ok (.lreturn, 1) := by decide +kernel
theorem dX1_refusalsOf_0 : decode cX1_refusalsOf 0 = .ok (.iload_n 1, 1) := by decide +kernel
theorem dX1_refusalsOf_1 : decode cX1_refusalsOf 1 = .ok (.iconst 1, 1) := by decide +kernel
theorem dX1_refusalsOf_2 : decode cX1_refusalsOf 2 = .ok (.if_icmp .lt 18, 3) := by decide +kernel
theorem dX1_refusalsOf_5 : decode cX1_refusalsOf 5 = .ok (.iload_n 1, 1) := by decide +kernel
theorem dX1_refusalsOf_6 : decode cX1_refusalsOf 6 = .ok (.bipush 6, 2) := by decide +kernel
theorem dX1_refusalsOf_8 : decode cX1_refusalsOf 8 = .ok (.if_icmp .gt 12, 3) := by decide +kernel
theorem dX1_refusalsOf_11 : decode cX1_refusalsOf 11 = .ok (.aload_n 0, 1) := by decide +kernel
theorem dX1_refusalsOf_12 : decode cX1_refusalsOf 12 = .ok (.getfield 40, 3) := by decide +kernel
theorem dX1_refusalsOf_15 : decode cX1_refusalsOf 15 = .ok (.iload_n 1, 1) := by decide +kernel
theorem dX1_refusalsOf_16 : decode cX1_refusalsOf 16 = .ok (.iaload, 1) := by decide +kernel
theorem dX1_refusalsOf_17 : decode cX1_refusalsOf 17 = .ok (.goto 5, 3) := by decide +kernel
theorem dX1_refusalsOf_20 : decode cX1_refusalsOf 20 = .ok (.bipush (-9), 2) := by decide +kernel
theorem dX1_refusalsOf_22 : decode cX1_refusalsOf 22 = .ok (.ireturn, 1) := by decide +kernel
theorem dX1_outside_0 : decode cX1_outside 0 = .ok (.iload_n 0, 1) := by decide +kernel
theorem dX1_outside_1 : decode cX1_outside 1 = .ok (.iload_n 1, 1) := by decide +kernel
theorem dX1_outside_2 : decode cX1_outside 2 = .ok (.if_icmp .ge 6, 3) := by decide +kernel
theorem dX1_outside_5 : decode cX1_outside 5 = .ok (.bipush (-4), 2) := by decide +kernel
theorem dX1_outside_7 : decode cX1_outside 7 = .ok (.ireturn, 1) := by decide +kernel
theorem dX1_outside_8 : decode cX1_outside 8 = .ok (.iload_n 0, 1) := by decide +kernel
theorem dX1_outside_9 : decode cX1_outside 9 = .ok (.iload_n 2, 1) := by decide +kernel
theorem dX1_outside_10 : decode cX1_outside 10 = .ok (.if_icmp .le 8, 3) := by decide +kernel
theorem dX1_outside_13 : decode cX1_outside 13 = .ok (.bipush (-6), 2) := by decide +kernel
theorem dX1_outside_15 : decode cX1_outside 15 = .ok (.goto 4, 3) := by decide +kernel
theorem dX1_outside_18 : decode cX1_outside 18 = .ok (.iconst 0, 1) := by decide +kernel
theorem dX1_outside_19 : decode cX1_outside 19 = .ok (.ireturn, 1) := by decide +kernel
theorem dX1_isOneOfTwo_0 : decode cX1_isOneOfTwo 0 = .ok (.iload_n 0, 1) := by decide +kernel
theorem dX1_isOneOfTwo_1 : decode cX1_isOneOfTwo 1 = .ok (.ifCond .eq 8, 3) := by decide +kernel
theorem dX1_isOneOfTwo_4 : decode cX1_isOneOfTwo 4 = .ok (.iload_n 0, 1) := by decide +kernel
theorem dX1_isOneOfTwo_5 : decode cX1_isOneOfTwo 5 = .ok (.iconst 1, 1) := by decide +kernel
theorem dX1_isOneOfTwo_6 : decode cX1_isOneOfTwo 6 = .ok (.if_icmp .ne 7, 3) := by decide +kernel
theorem dX1_isOneOfTwo_9 : decode cX1_isOneOfTwo 9 = .ok (.iconst 1, 1) := by decide +kernel
theorem dX1_isOneOfTwo_10 : decode cX1_isOneOfTwo 10 = .ok (.goto 4, 3) := by decide +kernel
theorem dX1_isOneOfTwo_13 : decode cX1_isOneOfTwo 13 = .ok (.iconst 0, 1) := by decide +kernel
theorem dX1_isOneOfTwo_14 : decode cX1_isOneOfTwo 14 = .ok (.ireturn, 1) := by decide +kernel
theorem dX1_lettersBehind_0 : decode cX1_lettersBehind 0 = .ok (.iload_n 0, 1) := by decide +kernel
theorem dX1_lettersBehind_1 : decode cX1_lettersBehind 1 = .ok (.tableswitch 117 98 119 #[115, 117, 117, 117, 117, 107, 117, 117, 117, 117, 117, 117, 109, 117, 105, 117, 103, 111, 117, 117, 117, 113], 103) := by decide +kernel
theorem dX1_lettersBehind_104 : decode cX1_lettersBehind 104 = .ok (.iconst 4, 1) := by decide +kernel
theorem dX1_lettersBehind_105 : decode cX1_lettersBehind 105 = .ok (.ireturn, 1) := by decide +kernel
theorem dX1_lettersBehind_106 : decode cX1_lettersBehind 106 = .ok (.iconst 4, 1) := by decide +kernel
theorem dX1_lettersBehind_107 : decode cX1_lettersBehind 107 = .ok (.ireturn, 1) := by decide +kernel
theorem dX1_lettersBehind_108 : decode cX1_lettersBehind 108 = .ok (.iconst 4, 1) := by decide +kernel
theorem dX1_lettersBehind_109 : decode cX1_lettersBehind 109 = .ok (.ireturn, 1) := by decide +kernel
theorem dX1_lettersBehind_110 : decode cX1_lettersBehind 110 = .ok (.iconst 3, 1) := by decide +kernel
theorem dX1_lettersBehind_111 : decode cX1_lettersBehind 111 = .ok (.ireturn, 1) := by decide +kernel
theorem dX1_lettersBehind_112 : decode cX1_lettersBehind 112 = .ok (.iconst 2, 1) := by decide +kernel
theorem dX1_lettersBehind_113 : decode cX1_lettersBehind 113 = .ok (.ireturn, 1) := by decide +kernel
theorem dX1_lettersBehind_114 : decode cX1_lettersBehind 114 = .ok (.iconst 2, 1) := by decide +kernel
theorem dX1_lettersBehind_115 : decode cX1_lettersBehind 115 = .ok (.ireturn, 1) := by decide +kernel
theorem dX1_lettersBehind_116 : decode cX1_lettersBehind 116 = .ok (.iconst 2, 1) := by decide +kernel
theorem dX1_lettersBehind_117 : decode cX1_lettersBehind 117 = .ok (.ireturn, 1) := by decide +kernel
theorem dX1_lettersBehind_118 : decode cX1_lettersBehind 118 = .ok (.iconst 0, 1) := by decide +kernel
theorem dX1_lettersBehind_119 : decode cX1_lettersBehind 119 = .ok (.ireturn, 1) := by decide +kernel
theorem dX1_wrongLetter_0 : decode cX1_wrongLetter 0 = .ok (.bipush 59, 2) := by decide +kernel
theorem dX1_wrongLetter_2 : decode cX1_wrongLetter 2 = .ok (.istore_n 2, 1) := by decide +kernel
theorem dX1_wrongLetter_3 : decode cX1_wrongLetter 3 = .ok (.iconst 0, 1) := by decide +kernel
theorem dX1_wrongLetter_4 : decode cX1_wrongLetter 4 = .ok (.istore_n 3, 1) := by decide +kernel
theorem dX1_wrongLetter_5 : decode cX1_wrongLetter 5 = .ok (.iconst 0, 1) := by decide +kernel
theorem dX1_wrongLetter_6 : decode cX1_wrongLetter 6 = .ok (.istore 4, 2) := by decide +kernel
theorem dX1_wrongLetter_8 : decode cX1_wrongLetter 8 = .ok (.iload 4, 2) := by decide +kernel
theorem dX1_wrongLetter_10 : decode cX1_wrongLetter 10 = .ok (.iload_n 1, 1) := by decide +kernel
theorem dX1_wrongLetter_11 : decode cX1_wrongLetter 11 = .ok (.if_icmp .ge 54, 3) := by decide +kernel
theorem dX1_wrongLetter_14 : decode cX1_wrongLetter 14 = .ok (.aload_n 0, 1) := by decide +kernel
theorem dX1_wrongLetter_15 : decode cX1_wrongLetter 15 = .ok (.getfield 26, 3) := by decide +kernel
theorem dX1_wrongLetter_18 : decode cX1_wrongLetter 18 = .ok (.iload 4, 2) := by decide +kernel
theorem dX1_wrongLetter_20 : decode cX1_wrongLetter 20 = .ok (.iaload, 1) := by decide +kernel
theorem dX1_wrongLetter_21 : decode cX1_wrongLetter 21 = .ok (.istore 5, 2) := by decide +kernel
theorem dX1_wrongLetter_23 : decode cX1_wrongLetter 23 = .ok (.iload_n 3, 1) := by decide +kernel
theorem dX1_wrongLetter_24 : decode cX1_wrongLetter 24 = .ok (.ifCond .ne 19, 3) := by decide +kernel
theorem dX1_wrongLetter_27 : decode cX1_wrongLetter 27 = .ok (.iload 5, 2) := by decide +kernel
theorem dX1_wrongLetter_29 : decode cX1_wrongLetter 29 = .ok (.istore_n 2, 1) := by decide +kernel
theorem dX1_wrongLetter_30 : decode cX1_wrongLetter 30 = .ok (.iload 5, 2) := by decide +kernel
theorem dX1_wrongLetter_32 : decode cX1_wrongLetter 32 = .ok (.invokestatic 67, 3) := by decide +kernel
theorem dX1_wrongLetter_35 : decode cX1_wrongLetter 35 = .ok (.istore_n 3, 1) := by decide +kernel
theorem dX1_wrongLetter_36 : decode cX1_wrongLetter 36 = .ok (.iload_n 3, 1) := by decide +kernel
theorem dX1_wrongLetter_37 : decode cX1_wrongLetter 37 = .ok (.ifCond .ne 22, 3) := by decide +kernel
theorem dX1_wrongLetter_40 : decode cX1_wrongLetter 40 = .ok (.iload 4, 2) := by decide +kernel
theorem dX1_wrongLetter_42 : decode cX1_wrongLetter 42 = .ok (.ireturn, 1) := by decide +kernel
theorem dX1_wrongLetter_43 : decode cX1_wrongLetter 43 = .ok (.iload 5, 2) := by decide +kernel
theorem dX1_wrongLetter_45 : decode cX1_wrongLetter 45 = .ok (.iload_n 2, 1) := by decide +kernel
theorem dX1_wrongLetter_46 : decode cX1_wrongLetter 46 = .ok (.iload_n 3, 1) := by decide +kernel
theorem dX1_wrongLetter_47 : decode cX1_wrongLetter 47 = .ok (.invokestatic 253, 3) := by decide +kernel
theorem dX1_wrongLetter_50 : decode cX1_wrongLetter 50 = .ok (.ifCond .ne 6, 3) := by decide +kernel
theorem dX1_wrongLetter_53 : decode cX1_wrongLetter 53 = .ok (.iload 4, 2) := by decide +kernel
theorem dX1_wrongLetter_55 : decode cX1_wrongLetter 55 = .ok (.ireturn, 1) := by decide +kernel
theorem dX1_wrongLetter_56 : decode cX1_wrongLetter 56 = .ok (.iinc 3 (-1), 3) := by decide +kernel
theorem dX1_wrongLetter_59 : decode cX1_wrongLetter 59 = .ok (.iinc 4 1, 3) := by decide +kernel
theorem dX1_wrongLetter_62 : decode cX1_wrongLetter 62 = .ok (.goto (-54), 3) := by decide +kernel
theorem dX1_wrongLetter_65 : decode cX1_wrongLetter 65 = .ok (.iload_n 3, 1) := by decide +kernel
theorem dX1_wrongLetter_66 : decode cX1_wrongLetter 66 = .ok (.ifCond .gt 7, 3) := by decide +kernel
theorem dX1_wrongLetter_69 : decode cX1_wrongLetter 69 = .ok (.iload_n 1, 1) := by decide +kernel
theorem dX1_wrongLetter_70 : decode cX1_wrongLetter 70 = .ok (.ifCond .ne 7, 3) := by decide +kernel
theorem dX1_wrongLetter_73 : decode cX1_wrongLetter 73 = .ok (.iload_n 1, 1) := by decide +kernel
theorem dX1_wrongLetter_74 : decode cX1_wrongLetter 74 = .ok (.goto 4, 3) := by decide +kernel
theorem dX1_wrongLetter_77 : decode cX1_wrongLetter 77 = .ok (.iconst (-1), 1) := by decide +kernel
theorem dX1_wrongLetter_78 : decode cX1_wrongLetter 78 = .ok (.ireturn, 1) := by decide +kernel
theorem dX1_canStand_0 : decode cX1_canStand 0 = .ok (.iload_n 2, 1) := by decide +kernel
theorem dX1_canStand_1 : decode cX1_canStand 1 = .ok (.iconst 1, 1) := by decide +kernel
theorem dX1_canStand_2 : decode cX1_canStand 2 = .ok (.if_icmp .ne 15, 3) := by decide +kernel
theorem dX1_canStand_5 : decode cX1_canStand 5 = .ok (.iload_n 0, 1) := by decide +kernel
theorem dX1_canStand_6 : decode cX1_canStand 6 = .ok (.bipush 59, 2) := by decide +kernel
theorem dX1_canStand_8 : decode cX1_canStand 8 = .ok (.if_icmp .ne 7, 3) := by decide +kernel
theorem dX1_canStand_11 : decode cX1_canStand 11 = .ok (.iconst 1, 1) := by decide +kernel
theorem dX1_canStand_12 : decode cX1_canStand 12 = .ok (.goto 4, 3) := by decide +kernel
theorem dX1_canStand_15 : decode cX1_canStand 15 = .ok (.iconst 0, 1) := by decide +kernel
theorem dX1_canStand_16 : decode cX1_canStand 16 = .ok (.ireturn, 1) := by decide +kernel
theorem dX1_canStand_17 : decode cX1_canStand 17 = .ok (.iload_n 1, 1) := by decide +kernel
theorem dX1_canStand_18 : decode cX1_canStand 18 = .ok (.bipush 114, 2) := by decide +kernel
theorem dX1_canStand_20 : decode cX1_canStand 20 = .ok (.if_icmp .ne 21, 3) := by decide +kernel
theorem dX1_canStand_23 : decode cX1_canStand 23 = .ok (.iload_n 2, 1) := by decide +kernel
theorem dX1_canStand_24 : decode cX1_canStand 24 = .ok (.iconst 4, 1) := by decide +kernel
theorem dX1_canStand_25 : decode cX1_canStand 25 = .ok (.if_icmp .ne 16, 3) := by decide +kernel
theorem dX1_canStand_28 : decode cX1_canStand 28 = .ok (.iload_n 0, 1) := by decide +kernel
theorem dX1_canStand_29 : decode cX1_canStand 29 = .ok (.invokestatic 256, 3) := by decide +kernel
theorem dX1_canStand_32 : decode cX1_canStand 32 = .ok (.ifCond .lt 7, 3) := by decide +kernel
theorem dX1_canStand_35 : decode cX1_canStand 35 = .ok (.iconst 1, 1) := by decide +kernel
theorem dX1_canStand_36 : decode cX1_canStand 36 = .ok (.goto 4, 3) := by decide +kernel
theorem dX1_canStand_39 : decode cX1_canStand 39 = .ok (.iconst 0, 1) := by decide +kernel
theorem dX1_canStand_40 : decode cX1_canStand 40 = .ok (.ireturn, 1) := by decide +kernel
theorem dX1_canStand_41 : decode cX1_canStand 41 = .ok (.iload_n 0, 1) := by decide +kernel
theorem dX1_canStand_42 : decode cX1_canStand 42 = .ok (.bipush 48, 2) := by decide +kernel
theorem dX1_canStand_44 : decode cX1_canStand 44 = .ok (.if_icmp .lt 13, 3) := by decide +kernel
theorem dX1_canStand_47 : decode cX1_canStand 47 = .ok (.iload_n 0, 1) := by decide +kernel
theorem dX1_canStand_48 : decode cX1_canStand 48 = .ok (.bipush 57, 2) := by decide +kernel
theorem dX1_canStand_50 : decode cX1_canStand 50 = .ok (.if_icmp .gt 7, 3) := by decide +kernel
theorem dX1_canStand_53 : decode cX1_canStand 53 = .ok (.iconst 1, 1) := by decide +kernel
theorem dX1_canStand_54 : decode cX1_canStand 54 = .ok (.goto 4, 3) := by decide +kernel
theorem dX1_canStand_57 : decode cX1_canStand 57 = .ok (.iconst 0, 1) := by decide +kernel
theorem dX1_canStand_58 : decode cX1_canStand 58 = .ok (.ireturn, 1) := by decide +kernel
theorem dX1_kindOf_0 : decode cX1_kindOf 0 = .ok (.ldc_w 259, 3) := by decide +kernel
theorem dX1_kindOf_3 : decode cX1_kindOf 3 = .ok (.iload_n 0, 1) := by decide +kernel
theorem dX1_kindOf_4 : decode cX1_kindOf 4 = .ok (.i2c, 1) := by decide +kernel
theorem dX1_kindOf_5 : decode cX1_kindOf 5 = .ok (.invokevirtual 261, 3) := by decide +kernel
theorem dX1_kindOf_8 : decode cX1_kindOf 8 = .ok (.ireturn, 1) := by decide +kernel
theorem dX1_numberAt_0 : decode cX1_numberAt 0 = .ok (.iconst 0, 1) := by decide +kernel
theorem dX1_numberAt_1 : decode cX1_numberAt 1 = .ok (.istore_n 3, 1) := by decide +kernel
theorem dX1_numberAt_2 : decode cX1_numberAt 2 = .ok (.iload_n 1, 1) := by decide +kernel
theorem dX1_numberAt_3 : decode cX1_numberAt 3 = .ok (.istore 4, 2) := by decide +kernel
theorem dX1_numberAt_5 : decode cX1_numberAt 5 = .ok (.iload 4, 2) := by decide +kernel
theorem dX1_numberAt_7 : decode cX1_numberAt 7 = .ok (.iload_n 1, 1) := by decide +kernel
theorem dX1_numberAt_8 : decode cX1_numberAt 8 = .ok (.iload_n 2, 1) := by decide +kernel
theorem dX1_numberAt_9 : decode cX1_numberAt 9 = .ok (.iadd, 1) := by decide +kernel
theorem dX1_numberAt_10 : decode cX1_numberAt 10 = .ok (.if_icmp .ge 32, 3) := by decide +kernel
theorem dX1_numberAt_13 : decode cX1_numberAt 13 = .ok (.iload 4, 2) := by decide +kernel
theorem dX1_numberAt_15 : decode cX1_numberAt 15 = .ok (.bipush 96, 2) := by decide +kernel
theorem dX1_numberAt_17 : decode cX1_numberAt 17 = .ok (.if_icmp .ge 25, 3) := by decide +kernel
theorem dX1_numberAt_20 : decode cX1_numberAt 20 = .ok (.bipush 10, 2) := by decide +kernel
theorem dX1_numberAt_22 : decode cX1_numberAt 22 = .ok (.iload_n 3, 1) := by decide +kernel
theorem dX1_numberAt_23 : decode cX1_numberAt 23 = .ok (.imul, 1) := by decide +kernel
theorem dX1_numberAt_24 : decode cX1_numberAt 24 = .ok (.aload_n 0, 1) := by decide +kernel
theorem dX1_numberAt_25 : decode cX1_numberAt 25 = .ok (.getfield 26, 3) := by decide +kernel
theorem dX1_numberAt_28 : decode cX1_numberAt 28 = .ok (.iload 4, 2) := by decide +kernel
theorem dX1_numberAt_30 : decode cX1_numberAt 30 = .ok (.iaload, 1) := by decide +kernel
theorem dX1_numberAt_31 : decode cX1_numberAt 31 = .ok (.bipush 48, 2) := by decide +kernel
theorem dX1_numberAt_33 : decode cX1_numberAt 33 = .ok (.isub, 1) := by decide +kernel
theorem dX1_numberAt_34 : decode cX1_numberAt 34 = .ok (.iadd, 1) := by decide +kernel
theorem dX1_numberAt_35 : decode cX1_numberAt 35 = .ok (.istore_n 3, 1) := by decide +kernel
theorem dX1_numberAt_36 : decode cX1_numberAt 36 = .ok (.iinc 4 1, 3) := by decide +kernel
theorem dX1_numberAt_39 : decode cX1_numberAt 39 = .ok (.goto (-34), 3) := by decide +kernel
theorem dX1_numberAt_42 : decode cX1_numberAt 42 = .ok (.iload_n 3, 1) := by decide +kernel
theorem dX1_numberAt_43 : decode cX1_numberAt 43 = .ok (.ireturn, 1) := by decide +kernel
theorem dX1_comesToMind_0 : decode cX1_comesToMind 0 = .ok (.aload_n 0, 1) := by decide +kernel
theorem dX1_comesToMind_1 : decode cX1_comesToMind 1 = .ok (.getfield 26, 3) := by decide +kernel
theorem dX1_comesToMind_4 : decode cX1_comesToMind 4 = .ok (.iload_n 1, 1) := by decide +kernel
theorem dX1_comesToMind_5 : decode cX1_comesToMind 5 = .ok (.iaload, 1) := by decide +kernel
theorem dX1_comesToMind_6 : decode cX1_comesToMind 6 = .ok (.tableswitch 205 98 119 #[145, 205, 205, 205, 205, 188, 205, 205, 205, 205, 205, 205, 158, 205, 108, 205, 102, 132, 205, 205, 205, 171], 102) := by decide +kernel
theorem dX1_comesToMind_108 : decode cX1_comesToMind 108 = .ok (.aload_n 0, 1) := by decide +kernel
theorem dX1_comesToMind_109 : decode cX1_comesToMind 109 = .ok (.iload_n 1, 1) := by decide +kernel
theorem dX1_comesToMind_110 : decode cX1_comesToMind 110 = .ok (.invokevirtual 266, 3) := by decide +kernel
theorem dX1_comesToMind_113 : decode cX1_comesToMind 113 = .ok (.ireturn, 1) := by decide +kernel
theorem dX1_comesToMind_114 : decode cX1_comesToMind 114 = .ok (.aload_n 0, 1) := by decide +kernel
theorem dX1_comesToMind_115 : decode cX1_comesToMind 115 = .ok (.getfield 16, 3) := by decide +kernel
theorem dX1_comesToMind_118 : decode cX1_comesToMind 118 = .ok (.aload_n 0, 1) := by decide +kernel
theorem dX1_comesToMind_119 : decode cX1_comesToMind 119 = .ok (.iload_n 1, 1) := by decide +kernel
theorem dX1_comesToMind_120 : decode cX1_comesToMind 120 = .ok (.iconst 1, 1) := by decide +kernel
theorem dX1_comesToMind_121 : decode cX1_comesToMind 121 = .ok (.iadd, 1) := by decide +kernel
theorem dX1_comesToMind_122 : decode cX1_comesToMind 122 = .ok (.iconst 2, 1) := by decide +kernel
theorem dX1_comesToMind_123 : decode cX1_comesToMind 123 = .ok (.invokevirtual 269, 3) := by decide +kernel
theorem dX1_comesToMind_126 : decode cX1_comesToMind 126 = .ok (.aload_n 0, 1) := by decide +kernel
theorem dX1_comesToMind_127 : decode cX1_comesToMind 127 = .ok (.iload_n 1, 1) := by decide +kernel
theorem dX1_comesToMind_128 : decode cX1_comesToMind 128 = .ok (.iconst 3, 1) := by decide +kernel
theorem dX1_comesToMind_129 : decode cX1_comesToMind 129 = .ok (.iadd, 1) := by decide +kernel
theorem dX1_comesToMind_130 : decode cX1_comesToMind 130 = .ok (.iconst 1, 1) := by decide +kernel
theorem dX1_comesToMind_131 : decode cX1_comesToMind 131 = .ok (.invokevirtual 269, 3) := by decide +kernel
theorem dX1_comesToMind_134 : decode cX1_comesToMind 134 = .ok (.invokevirtual 272, 3) := by decide +kernel
theorem dX1_comesToMind_137 : decode cX1_comesToMind 137 = .ok (.ireturn, 1) := by decide +kernel
theorem dX1_comesToMind_138 : decode cX1_comesToMind 138 = .ok (.aload_n 0, 1) := by decide +kernel
theorem dX1_comesToMind_139 : decode cX1_comesToMind 139 = .ok (.aload_n 0, 1) := by decide +kernel
theorem dX1_comesToMind_140 : decode cX1_comesToMind 140 = .ok (.iload_n 1, 1) := by decide +kernel
theorem dX1_comesToMind_141 : decode cX1_comesToMind 141 = .ok (.iconst 1, 1) := by decide +kernel
theorem dX1_comesToMind_142 : decode cX1_comesToMind 142 = .ok (.iadd, 1) := by decide +kernel
theorem dX1_comesToMind_143 : decode cX1_comesToMind 143 = .ok (.iconst 1, 1) := by decide +kernel
theorem dX1_comesToMind_144 : decode cX1_comesToMind 144 = .ok (.invokevirtual 269, 3) := by decide +kernel
theorem dX1_comesToMind_147 : decode cX1_comesToMind 147 = .ok (.invokevirtual 276, 3) := by decide +kernel
theorem dX1_comesToMind_150 : decode cX1_comesToMind 150 = .ok (.ireturn, 1) := by decide +kernel
theorem dX1_comesToMind_151 : decode cX1_comesToMind 151 = .ok (.aload_n 0, 1) := by decide +kernel
theorem dX1_comesToMind_152 : decode cX1_comesToMind 152 = .ok (.aload_n 0, 1) := by decide +kernel
theorem dX1_comesToMind_153 : decode cX1_comesToMind 153 = .ok (.iload_n 1, 1) := by decide +kernel
theorem dX1_comesToMind_154 : decode cX1_comesToMind 154 = .ok (.iconst 1, 1) := by decide +kernel
theorem dX1_comesToMind_155 : decode cX1_comesToMind 155 = .ok (.iadd, 1) := by decide +kernel
theorem dX1_comesToMind_156 : decode cX1_comesToMind 156 = .ok (.iconst 1, 1) := by decide +kernel
theorem dX1_comesToMind_157 : decode cX1_comesToMind 157 = .ok (.invokevirtual 269, 3) := by decide +kernel
theorem dX1_comesToMind_160 : decode cX1_comesToMind 160 = .ok (.invokevirtual 279, 3) := by decide +kernel
theorem dX1_comesToMind_163 : decode cX1_comesToMind 163 = .ok (.ireturn, 1) := by decide +kernel
theorem dX1_comesToMind_164 : decode cX1_comesToMind 164 = .ok (.aload_n 0, 1) := by decide +kernel
theorem dX1_comesToMind_165 : decode cX1_comesToMind 165 = .ok (.aload_n 0, 1) := by decide +kernel
theorem dX1_comesToMind_166 : decode cX1_comesToMind 166 = .ok (.iload_n 1, 1) := by decide +kernel
theorem dX1_comesToMind_167 : decode cX1_comesToMind 167 = .ok (.iconst 1, 1) := by decide +kernel
theorem dX1_comesToMind_168 : decode cX1_comesToMind 168 = .ok (.iadd, 1) := by decide +kernel
theorem dX1_comesToMind_169 : decode cX1_comesToMind 169 = .ok (.iconst 2, 1) := by decide +kernel
theorem dX1_comesToMind_170 : decode cX1_comesToMind 170 = .ok (.invokevirtual 269, 3) := by decide +kernel
theorem dX1_comesToMind_173 : decode cX1_comesToMind 173 = .ok (.invokevirtual 282, 3) := by decide +kernel
theorem dX1_comesToMind_176 : decode cX1_comesToMind 176 = .ok (.ireturn, 1) := by decide +kernel
theorem dX1_comesToMind_177 : decode cX1_comesToMind 177 = .ok (.aload_n 0, 1) := by decide +kernel
theorem dX1_comesToMind_178 : decode cX1_comesToMind 178 = .ok (.getfield 16, 3) := by decide +kernel
theorem dX1_comesToMind_181 : decode cX1_comesToMind 181 = .ok (.aload_n 0, 1) := by decide +kernel
theorem dX1_comesToMind_182 : decode cX1_comesToMind 182 = .ok (.iload_n 1, 1) := by decide +kernel
theorem dX1_comesToMind_183 : decode cX1_comesToMind 183 = .ok (.iconst 1, 1) := by decide +kernel
theorem dX1_comesToMind_184 : decode cX1_comesToMind 184 = .ok (.iadd, 1) := by decide +kernel
theorem dX1_comesToMind_185 : decode cX1_comesToMind 185 = .ok (.iconst 1, 1) := by decide +kernel
theorem dX1_comesToMind_186 : decode cX1_comesToMind 186 = .ok (.invokevirtual 269, 3) := by decide +kernel
theorem dX1_comesToMind_189 : decode cX1_comesToMind 189 = .ok (.putfield 144, 3) := by decide +kernel
theorem dX1_comesToMind_192 : decode cX1_comesToMind 192 = .ok (.iconst 1, 1) := by decide +kernel
theorem dX1_comesToMind_193 : decode cX1_comesToMind 193 = .ok (.ireturn, 1) := by decide +kernel
theorem dX1_comesToMind_194 : decode cX1_comesToMind 194 = .ok (.aload_n 0, 1) := by decide +kernel
theorem dX1_comesToMind_195 : decode cX1_comesToMind 195 = .ok (.getfield 16, 3) := by decide +kernel
theorem dX1_comesToMind_198 : decode cX1_comesToMind 198 = .ok (.aload_n 0, 1) := by decide +kernel
theorem dX1_comesToMind_199 : decode cX1_comesToMind 199 = .ok (.iload_n 1, 1) := by decide +kernel
theorem dX1_comesToMind_200 : decode cX1_comesToMind 200 = .ok (.iconst 1, 1) := by decide +kernel
theorem dX1_comesToMind_201 : decode cX1_comesToMind 201 = .ok (.iadd, 1) := by decide +kernel
theorem dX1_comesToMind_202 : decode cX1_comesToMind 202 = .ok (.iconst 3, 1) := by decide +kernel
theorem dX1_comesToMind_203 : decode cX1_comesToMind 203 = .ok (.invokevirtual 269, 3) := by decide +kernel
theorem dX1_comesToMind_206 : decode cX1_comesToMind 206 = .ok (.putfield 122, 3) := by decide +kernel
theorem dX1_comesToMind_209 : decode cX1_comesToMind 209 = .ok (.iconst 1, 1) := by decide +kernel
theorem dX1_comesToMind_210 : decode cX1_comesToMind 210 = .ok (.ireturn, 1) := by decide +kernel
theorem dX1_comesToMind_211 : decode cX1_comesToMind 211 = .ok (.iconst 0, 1) := by decide +kernel
theorem dX1_comesToMind_212 : decode cX1_comesToMind 212 = .ok (.ireturn, 1) := by decide +kernel
theorem dX1_rocketComes_0 : decode cX1_rocketComes 0 = .ok (.iload_n 1, 1) := by decide +kernel
theorem dX1_rocketComes_1 : decode cX1_rocketComes 1 = .ok (.iconst 1, 1) := by decide +kernel
theorem dX1_rocketComes_2 : decode cX1_rocketComes 2 = .ok (.iadd, 1) := by decide +kernel
theorem dX1_rocketComes_3 : decode cX1_rocketComes 3 = .ok (.bipush 96, 2) := by decide +kernel
theorem dX1_rocketComes_5 : decode cX1_rocketComes 5 = .ok (.if_icmp .lt 5, 3) := by decide +kernel
theorem dX1_rocketComes_8 : decode cX1_rocketComes 8 = .ok (.iconst 0, 1) := by decide +kernel
theorem dX1_rocketComes_9 : decode cX1_rocketComes 9 = .ok (.ireturn, 1) := by decide +kernel
theorem dX1_rocketComes_10 : decode cX1_rocketComes 10 = .ok (.aload_n 0, 1) := by decide +kernel
theorem dX1_rocketComes_11 : decode cX1_rocketComes 11 = .ok (.getfield 16, 3) := by decide +kernel
theorem dX1_rocketComes_14 : decode cX1_rocketComes 14 = .ok (.aload_n 0, 1) := by decide +kernel
theorem dX1_rocketComes_15 : decode cX1_rocketComes 15 = .ok (.getfield 26, 3) := by decide +kernel
theorem dX1_rocketComes_18 : decode cX1_rocketComes 18 = .ok (.iload_n 1, 1) := by decide +kernel
theorem dX1_rocketComes_19 : decode cX1_rocketComes 19 = .ok (.iconst 1, 1) := by decide +kernel
theorem dX1_rocketComes_20 : decode cX1_rocketComes 20 = .ok (.iadd, 1) := by decide +kernel
theorem dX1_rocketComes_21 : decode cX1_rocketComes 21 = .ok (.iaload, 1) := by decide +kernel
theorem dX1_rocketComes_22 : decode cX1_rocketComes 22 = .ok (.invokestatic 256, 3) := by decide +kernel
theorem dX1_rocketComes_25 : decode cX1_rocketComes 25 = .ok (.aload_n 0, 1) := by decide +kernel
theorem dX1_rocketComes_26 : decode cX1_rocketComes 26 = .ok (.iload_n 1, 1) := by decide +kernel
theorem dX1_rocketComes_27 : decode cX1_rocketComes 27 = .ok (.iconst 2, 1) := by decide +kernel
theorem dX1_rocketComes_28 : decode cX1_rocketComes 28 = .ok (.iadd, 1) := by decide +kernel
theorem dX1_rocketComes_29 : decode cX1_rocketComes 29 = .ok (.iconst 1, 1) := by decide +kernel
theorem dX1_rocketComes_30 : decode cX1_rocketComes 30 = .ok (.invokevirtual 269, 3) := by decide +kernel
theorem dX1_rocketComes_33 : decode cX1_rocketComes 33 = .ok (.aload_n 0, 1) := by decide +kernel
theorem dX1_rocketComes_34 : decode cX1_rocketComes 34 = .ok (.iload_n 1, 1) := by decide +kernel
theorem dX1_rocketComes_35 : decode cX1_rocketComes 35 = .ok (.iconst 3, 1) := by decide +kernel
theorem dX1_rocketComes_36 : decode cX1_rocketComes 36 = .ok (.iadd, 1) := by decide +kernel
theorem dX1_rocketComes_37 : decode cX1_rocketComes 37 = .ok (.iconst 1, 1) := by decide +kernel
theorem dX1_rocketComes_38 : decode cX1_rocketComes 38 = .ok (.invokevirtual 269, 3) := by decide +kernel
theorem dX1_rocketComes_41 : decode cX1_rocketComes 41 = .ok (.invokevirtual 285, 3) := by decide +kernel
theorem dX1_rocketComes_44 : decode cX1_rocketComes 44 = .ok (.ireturn, 1) := by decide +kernel
theorem dX1_rocketGoesUp_0 : decode cX1_rocketGoesUp 0 = .ok (.aload_n 0, 1) := by decide +kernel
theorem dX1_rocketGoesUp_1 : decode cX1_rocketGoesUp 1 = .ok (.getfield 16, 3) := by decide +kernel
theorem dX1_rocketGoesUp_4 : decode cX1_rocketGoesUp 4 = .ok (.iload_n 1, 1) := by decide +kernel
theorem dX1_rocketGoesUp_5 : decode cX1_rocketGoesUp 5 = .ok (.invokevirtual 115, 3) := by decide +kernel
theorem dX1_rocketGoesUp_8 : decode cX1_rocketGoesUp 8 = .ok (.ifCond .ne 5, 3) := by decide +kernel
theorem dX1_rocketGoesUp_11 : decode cX1_rocketGoesUp 11 = .ok (.iconst 0, 1) := by decide +kernel
theorem dX1_rocketGoesUp_12 : decode cX1_rocketGoesUp 12 = .ok (.ireturn, 1) := by decide +kernel
theorem dX1_rocketGoesUp_13 : decode cX1_rocketGoesUp 13 = .ok (.aload_n 0, 1) := by decide +kernel
theorem dX1_rocketGoesUp_14 : decode cX1_rocketGoesUp 14 = .ok (.getfield 16, 3) := by decide +kernel
theorem dX1_rocketGoesUp_17 : decode cX1_rocketGoesUp 17 = .ok (.iload_n 1, 1) := by decide +kernel
theorem dX1_rocketGoesUp_18 : decode cX1_rocketGoesUp 18 = .ok (.bipush 31, 2) := by decide +kernel
theorem dX1_rocketGoesUp_20 : decode cX1_rocketGoesUp 20 = .ok (.invokevirtual 118, 3) := by decide +kernel
theorem dX1_rocketGoesUp_23 : decode cX1_rocketGoesUp 23 = .ok (.iconst 1, 1) := by decide +kernel
theorem dX1_rocketGoesUp_24 : decode cX1_rocketGoesUp 24 = .ok (.ireturn, 1) := by decide +kernel
theorem dX1_rocketGoesBack_0 : decode cX1_rocketGoesBack 0 = .ok (.aload_n 0, 1) := by decide +kernel
theorem dX1_rocketGoesBack_1 : decode cX1_rocketGoesBack 1 = .ok (.getfield 16, 3) := by decide +kernel
theorem dX1_rocketGoesBack_4 : decode cX1_rocketGoesBack 4 = .ok (.iload_n 1, 1) := by decide +kernel
theorem dX1_rocketGoesBack_5 : decode cX1_rocketGoesBack 5 = .ok (.invokevirtual 70, 3) := by decide +kernel
theorem dX1_rocketGoesBack_8 : decode cX1_rocketGoesBack 8 = .ok (.ifCond .eq 14, 3) := by decide +kernel
theorem dX1_rocketGoesBack_11 : decode cX1_rocketGoesBack 11 = .ok (.aload_n 0, 1) := by decide +kernel
theorem dX1_rocketGoesBack_12 : decode cX1_rocketGoesBack 12 = .ok (.getfield 16, 3) := by decide +kernel
theorem dX1_rocketGoesBack_15 : decode cX1_rocketGoesBack 15 = .ok (.iload_n 1, 1) := by decide +kernel
theorem dX1_rocketGoesBack_16 : decode cX1_rocketGoesBack 16 = .ok (.invokevirtual 82, 3) := by decide +kernel
theorem dX1_rocketGoesBack_19 : decode cX1_rocketGoesBack 19 = .ok (.ifCond .ne 5, 3) := by decide +kernel
theorem dX1_rocketGoesBack_22 : decode cX1_rocketGoesBack 22 = .ok (.iconst 0, 1) := by decide +kernel
theorem dX1_rocketGoesBack_23 : decode cX1_rocketGoesBack 23 = .ok (.ireturn, 1) := by decide +kernel
theorem dX1_rocketGoesBack_24 : decode cX1_rocketGoesBack 24 = .ok (.aload_n 0, 1) := by decide +kernel
theorem dX1_rocketGoesBack_25 : decode cX1_rocketGoesBack 25 = .ok (.getfield 16, 3) := by decide +kernel
theorem dX1_rocketGoesBack_28 : decode cX1_rocketGoesBack 28 = .ok (.iload_n 1, 1) := by decide +kernel
theorem dX1_rocketGoesBack_29 : decode cX1_rocketGoesBack 29 = .ok (.invokevirtual 125, 3) := by decide +kernel
theorem dX1_rocketGoesBack_32 : decode cX1_rocketGoesBack 32 = .ok (.iconst 1, 1) := by decide +kernel
theorem dX1_rocketGoesBack_33 : decode cX1_rocketGoesBack 33 = .ok (.ireturn, 1) := by decide +kernel
theorem dX1_nightsGoBy_0 : decode cX1_nightsGoBy 0 = .ok (.iload_n 1, 1) := by decide +kernel
theorem dX1_nightsGoBy_1 : decode cX1_nightsGoBy 1 = .ok (.iconst 1, 1) := by decide +kernel
theorem dX1_nightsGoBy_2 : decode cX1_nightsGoBy 2 = .ok (.if_icmp .lt 24, 3) := by decide +kernel
theorem dX1_nightsGoBy_5 : decode cX1_nightsGoBy 5 = .ok (.iload_n 1, 1) := by decide +kernel
theorem dX1_nightsGoBy_6 : decode cX1_nightsGoBy 6 = .ok (.bipush 60, 2) := by decide +kernel
theorem dX1_nightsGoBy_8 : decode cX1_nightsGoBy 8 = .ok (.if_icmp .gt 18, 3) := by decide +kernel
theorem dX1_nightsGoBy_11 : decode cX1_nightsGoBy 11 = .ok (.aload_n 0, 1) := by decide +kernel
theorem dX1_nightsGoBy_12 : decode cX1_nightsGoBy 12 = .ok (.getfield 16, 3) := by decide +kernel
theorem dX1_nightsGoBy_15 : decode cX1_nightsGoBy 15 = .ok (.getfield 147, 3) := by decide +kernel
theorem dX1_nightsGoBy_18 : decode cX1_nightsGoBy 18 = .ok (.iload_n 1, 1) := by decide +kernel
theorem dX1_nightsGoBy_19 : decode cX1_nightsGoBy 19 = .ok (.iadd, 1) := by decide +kernel
theorem dX1_nightsGoBy_20 : decode cX1_nightsGoBy 20 = .ok (.sipush 999, 3) := by decide +kernel
theorem dX1_nightsGoBy_23 : decode cX1_nightsGoBy 23 = .ok (.if_icmp .le 5, 3) := by decide +kernel
theorem dX1_nightsGoBy_26 : decode cX1_nightsGoBy 26 = .ok (.iconst 0, 1) := by decide +kernel
theorem dX1_nightsGoBy_27 : decode cX1_nightsGoBy 27 = .ok (.ireturn, 1) := by decide +kernel
theorem dX1_nightsGoBy_28 : decode cX1_nightsGoBy 28 = .ok (.aload_n 0, 1) := by decide +kernel
theorem dX1_nightsGoBy_29 : decode cX1_nightsGoBy 29 = .ok (.getfield 16, 3) := by decide +kernel
theorem dX1_nightsGoBy_32 : decode cX1_nightsGoBy 32 = .ok (.iload_n 1, 1) := by decide +kernel
theorem dX1_nightsGoBy_33 : decode cX1_nightsGoBy 33 = .ok (.bipush 31, 2) := by decide +kernel
theorem dX1_nightsGoBy_35 : decode cX1_nightsGoBy 35 = .ok (.invokevirtual 150, 3) := by decide +kernel
theorem dX1_nightsGoBy_38 : decode cX1_nightsGoBy 38 = .ok (.iconst 1, 1) := by decide +kernel
theorem dX1_nightsGoBy_39 : decode cX1_nightsGoBy 39 = .ok (.ireturn, 1) := by decide +kernel
theorem dX1_thinkOn_0 : decode cX1_thinkOn 0 = .ok (.aload_n 0, 1) := by decide +kernel
theorem dX1_thinkOn_1 : decode cX1_thinkOn 1 = .ok (.getfield 16, 3) := by decide +kernel
theorem dX1_thinkOn_4 : decode cX1_thinkOn 4 = .ok (.aload_n 0, 1) := by decide +kernel
theorem dX1_thinkOn_5 : decode cX1_thinkOn 5 = .ok (.getfield 10, 3) := by decide +kernel
theorem dX1_thinkOn_8 : decode cX1_thinkOn 8 = .ok (.invokevirtual 59, 3) := by decide +kernel
theorem dX1_thinkOn_11 : decode cX1_thinkOn 11 = .ok (.aload_n 0, 1) := by decide +kernel
theorem dX1_thinkOn_12 : decode cX1_thinkOn 12 = .ok (.getfield 16, 3) := by decide +kernel
theorem dX1_thinkOn_15 : decode cX1_thinkOn 15 = .ok (.iload_n 1, 1) := by decide +kernel
theorem dX1_thinkOn_16 : decode cX1_thinkOn 16 = .ok (.bipush 31, 2) := by decide +kernel
theorem dX1_thinkOn_18 : decode cX1_thinkOn 18 = .ok (.invokevirtual 150, 3) := by decide +kernel
theorem dX1_thinkOn_21 : decode cX1_thinkOn 21 = .ok (.return_, 1) := by decide +kernel
theorem dX1_nightsUntilWhole_0 : decode cX1_nightsUntilWhole 0 = .ok (.aload_n 0, 1) := by decide +kernel
theorem dX1_nightsUntilWhole_1 : decode cX1_nightsUntilWhole 1 = .ok (.getfield 16, 3) := by decide +kernel
theorem dX1_nightsUntilWhole_4 : decode cX1_nightsUntilWhole 4 = .ok (.aload_n 0, 1) := by decide +kernel
theorem dX1_nightsUntilWhole_5 : decode cX1_nightsUntilWhole 5 = .ok (.getfield 10, 3) := by decide +kernel
theorem dX1_nightsUntilWhole_8 : decode cX1_nightsUntilWhole 8 = .ok (.invokevirtual 59, 3) := by decide +kernel
theorem dX1_nightsUntilWhole_11 : decode cX1_nightsUntilWhole 11 = .ok (.iconst 0, 1) := by decide +kernel
theorem dX1_nightsUntilWhole_12 : decode cX1_nightsUntilWhole 12 = .ok (.istore_n 2, 1) := by decide +kernel
theorem dX1_nightsUntilWhole_13 : decode cX1_nightsUntilWhole 13 = .ok (.iload_n 2, 1) := by decide +kernel
theorem dX1_nightsUntilWhole_14 : decode cX1_nightsUntilWhole 14 = .ok (.bipush 60, 2) := by decide +kernel
theorem dX1_nightsUntilWhole_16 : decode cX1_nightsUntilWhole 16 = .ok (.if_icmp .gt 32, 3) := by decide +kernel
theorem dX1_nightsUntilWhole_19 : decode cX1_nightsUntilWhole 19 = .ok (.aload_n 0, 1) := by decide +kernel
theorem dX1_nightsUntilWhole_20 : decode cX1_nightsUntilWhole 20 = .ok (.getfield 16, 3) := by decide +kernel
theorem dX1_nightsUntilWhole_23 : decode cX1_nightsUntilWhole 23 = .ok (.iload_n 1, 1) := by decide +kernel
theorem dX1_nightsUntilWhole_24 : decode cX1_nightsUntilWhole 24 = .ok (.invokevirtual 288, 3) := by decide +kernel
theorem dX1_nightsUntilWhole_27 : decode cX1_nightsUntilWhole 27 = .ok (.ifCond .eq 5, 3) := by decide +kernel
theorem dX1_nightsUntilWhole_30 : decode cX1_nightsUntilWhole 30 = .ok (.iload_n 2, 1) := by decide +kernel
theorem dX1_nightsUntilWhole_31 : decode cX1_nightsUntilWhole 31 = .ok (.ireturn, 1) := by decide +kernel
theorem dX1_nightsUntilWhole_32 : decode cX1_nightsUntilWhole 32 = .ok (.aload_n 0, 1) := by decide +kernel
theorem dX1_nightsUntilWhole_33 : decode cX1_nightsUntilWhole 33 = .ok (.getfield 16, 3) := by decide +kernel
theorem dX1_nightsUntilWhole_36 : decode cX1_nightsUntilWhole 36 = .ok (.iconst 1, 1) := by decide +kernel
theorem dX1_nightsUntilWhole_37 : decode cX1_nightsUntilWhole 37 = .ok (.bipush 31, 2) := by decide +kernel
theorem dX1_nightsUntilWhole_39 : decode cX1_nightsUntilWhole 39 = .ok (.invokevirtual 150, 3) := by decide +kernel
theorem dX1_nightsUntilWhole_42 : decode cX1_nightsUntilWhole 42 = .ok (.iinc 2 1, 3) := by decide +kernel
theorem dX1_nightsUntilWhole_45 : decode cX1_nightsUntilWhole 45 = .ok (.goto (-32), 3) := by decide +kernel
theorem dX1_nightsUntilWhole_48 : decode cX1_nightsUntilWhole 48 = .ok (.bipush (-9), 2) := by decide +kernel
theorem dX1_nightsUntilWhole_50 : decode cX1_nightsUntilWhole 50 = .ok (.ireturn, 1) := by decide +kernel
theorem dX1_firstWhole_0 : decode cX1_firstWhole 0 = .ok (.bipush (-9), 2) := by decide +kernel
theorem dX1_firstWhole_2 : decode cX1_firstWhole 2 = .ok (.istore_n 1, 1) := by decide +kernel
theorem dX1_firstWhole_3 : decode cX1_firstWhole 3 = .ok (.bipush 61, 2) := by decide +kernel
theorem dX1_firstWhole_5 : decode cX1_firstWhole 5 = .ok (.istore_n 2, 1) := by decide +kernel
theorem dX1_firstWhole_6 : decode cX1_firstWhole 6 = .ok (.iconst 0, 1) := by decide +kernel
theorem dX1_firstWhole_7 : decode cX1_firstWhole 7 = .ok (.istore_n 3, 1) := by decide +kernel
theorem dX1_firstWhole_8 : decode cX1_firstWhole 8 = .ok (.iload_n 3, 1) := by decide +kernel
theorem dX1_firstWhole_9 : decode cX1_firstWhole 9 = .ok (.aload_n 0, 1) := by decide +kernel
theorem dX1_firstWhole_10 : decode cX1_firstWhole 10 = .ok (.getfield 10, 3) := by decide +kernel
theorem dX1_firstWhole_13 : decode cX1_firstWhole 13 = .ok (.getfield 203, 3) := by decide +kernel
theorem dX1_firstWhole_16 : decode cX1_firstWhole 16 = .ok (.if_icmp .ge 34, 3) := by decide +kernel
theorem dX1_firstWhole_19 : decode cX1_firstWhole 19 = .ok (.aload_n 0, 1) := by decide +kernel
theorem dX1_firstWhole_20 : decode cX1_firstWhole 20 = .ok (.iload_n 3, 1) := by decide +kernel
theorem dX1_firstWhole_21 : decode cX1_firstWhole 21 = .ok (.invokevirtual 163, 3) := by decide +kernel
theorem dX1_firstWhole_24 : decode cX1_firstWhole 24 = .ok (.istore 4, 2) := by decide +kernel
theorem dX1_firstWhole_26 : decode cX1_firstWhole 26 = .ok (.iload 4, 2) := by decide +kernel
theorem dX1_firstWhole_28 : decode cX1_firstWhole 28 = .ok (.bipush (-9), 2) := by decide +kernel
theorem dX1_firstWhole_30 : decode cX1_firstWhole 30 = .ok (.if_icmp .eq 14, 3) := by decide +kernel
theorem dX1_firstWhole_33 : decode cX1_firstWhole 33 = .ok (.iload 4, 2) := by decide +kernel
theorem dX1_firstWhole_35 : decode cX1_firstWhole 35 = .ok (.iload_n 2, 1) := by decide +kernel
theorem dX1_firstWhole_36 : decode cX1_firstWhole 36 = .ok (.if_icmp .ge 8, 3) := by decide +kernel
theorem dX1_firstWhole_39 : decode cX1_firstWhole 39 = .ok (.iload 4, 2) := by decide +kernel
theorem dX1_firstWhole_41 : decode cX1_firstWhole 41 = .ok (.istore_n 2, 1) := by decide +kernel
theorem dX1_firstWhole_42 : decode cX1_firstWhole 42 = .ok (.iload_n 3, 1) := by decide +kernel
theorem dX1_firstWhole_43 : decode cX1_firstWhole 43 = .ok (.istore_n 1, 1) := by decide +kernel
theorem dX1_firstWhole_44 : decode cX1_firstWhole 44 = .ok (.iinc 3 1, 3) := by decide +kernel
theorem dX1_firstWhole_47 : decode cX1_firstWhole 47 = .ok (.goto (-39), 3) := by decide +kernel
theorem dX1_firstWhole_50 : decode cX1_firstWhole 50 = .ok (.iload_n 1, 1) := by decide +kernel
theorem dX1_firstWhole_51 : decode cX1_firstWhole 51 = .ok (.ireturn, 1) := by decide +kernel
theorem dX1_nightsUntilSpent_0 : decode cX1_nightsUntilSpent 0 = .ok (.aload_n 0, 1) := by decide +kernel
theorem dX1_nightsUntilSpent_1 : decode cX1_nightsUntilSpent 1 = .ok (.getfield 16, 3) := by decide +kernel
theorem dX1_nightsUntilSpent_4 : decode cX1_nightsUntilSpent 4 = .ok (.aload_n 0, 1) := by decide +kernel
theorem dX1_nightsUntilSpent_5 : decode cX1_nightsUntilSpent 5 = .ok (.getfield 10, 3) := by decide +kernel
theorem dX1_nightsUntilSpent_8 : decode cX1_nightsUntilSpent 8 = .ok (.invokevirtual 59, 3) := by decide +kernel
theorem dX1_nightsUntilSpent_11 : decode cX1_nightsUntilSpent 11 = .ok (.iconst 0, 1) := by decide +kernel
theorem dX1_nightsUntilSpent_12 : decode cX1_nightsUntilSpent 12 = .ok (.istore_n 1, 1) := by decide +kernel
theorem dX1_nightsUntilSpent_13 : decode cX1_nightsUntilSpent 13 = .ok (.iload_n 1, 1) := by decide +kernel
theorem dX1_nightsUntilSpent_14 : decode cX1_nightsUntilSpent 14 = .ok (.bipush 60, 2) := by decide +kernel
theorem dX1_nightsUntilSpent_16 : decode cX1_nightsUntilSpent 16 = .ok (.if_icmp .gt 33, 3) := by decide +kernel
theorem dX1_nightsUntilSpent_19 : decode cX1_nightsUntilSpent 19 = .ok (.aload_n 0, 1) := by decide +kernel
theorem dX1_nightsUntilSpent_20 : decode cX1_nightsUntilSpent 20 = .ok (.getfield 16, 3) := by decide +kernel
theorem dX1_nightsUntilSpent_23 : decode cX1_nightsUntilSpent 23 = .ok (.invokevirtual 166, 3) := by decide +kernel
theorem dX1_nightsUntilSpent_26 : decode cX1_nightsUntilSpent 26 = .ok (.bipush (-9), 2) := by decide +kernel
theorem dX1_nightsUntilSpent_28 : decode cX1_nightsUntilSpent 28 = .ok (.if_icmp .ne 5, 3) := by decide +kernel
theorem dX1_nightsUntilSpent_31 : decode cX1_nightsUntilSpent 31 = .ok (.iload_n 1, 1) := by decide +kernel
theorem dX1_nightsUntilSpent_32 : decode cX1_nightsUntilSpent 32 = .ok (.ireturn, 1) := by decide +kernel
theorem dX1_nightsUntilSpent_33 : decode cX1_nightsUntilSpent 33 = .ok (.aload_n 0, 1) := by decide +kernel
theorem dX1_nightsUntilSpent_34 : decode cX1_nightsUntilSpent 34 = .ok (.getfield 16, 3) := by decide +kernel
theorem dX1_nightsUntilSpent_37 : decode cX1_nightsUntilSpent 37 = .ok (.iconst 1, 1) := by decide +kernel
theorem dX1_nightsUntilSpent_38 : decode cX1_nightsUntilSpent 38 = .ok (.bipush 31, 2) := by decide +kernel
theorem dX1_nightsUntilSpent_40 : decode cX1_nightsUntilSpent 40 = .ok (.invokevirtual 150, 3) := by decide +kernel
theorem dX1_nightsUntilSpent_43 : decode cX1_nightsUntilSpent 43 = .ok (.iinc 1 1, 3) := by decide +kernel
theorem dX1_nightsUntilSpent_46 : decode cX1_nightsUntilSpent 46 = .ok (.goto (-33), 3) := by decide +kernel
theorem dX1_nightsUntilSpent_49 : decode cX1_nightsUntilSpent 49 = .ok (.bipush (-9), 2) := by decide +kernel
theorem dX1_nightsUntilSpent_51 : decode cX1_nightsUntilSpent 51 = .ok (.ireturn, 1) := by decide +kernel
theorem dX1_noteWhatIsBrought_0 : decode cX1_noteWhatIsBrought 0 = .ok (.aload_n 0, 1) := by decide +kernel
theorem dX1_noteWhatIsBrought_1 : decode cX1_noteWhatIsBrought 1 = .ok (.getfield 43, 3) := by decide +kernel
theorem dX1_noteWhatIsBrought_4 : decode cX1_noteWhatIsBrought 4 = .ok (.iconst 0, 1) := by decide +kernel
theorem dX1_noteWhatIsBrought_5 : decode cX1_noteWhatIsBrought 5 = .ok (.invokestatic 291, 3) := by decide +kernel
theorem dX1_noteWhatIsBrought_8 : decode cX1_noteWhatIsBrought 8 = .ok (.iconst 0, 1) := by decide +kernel
theorem dX1_noteWhatIsBrought_9 : decode cX1_noteWhatIsBrought 9 = .ok (.istore_n 2, 1) := by decide +kernel
theorem dX1_noteWhatIsBrought_10 : decode cX1_noteWhatIsBrought 10 = .ok (.iload_n 2, 1) := by decide +kernel
theorem dX1_noteWhatIsBrought_11 : decode cX1_noteWhatIsBrought 11 = .ok (.aload_n 0, 1) := by decide +kernel
theorem dX1_noteWhatIsBrought_12 : decode cX1_noteWhatIsBrought 12 = .ok (.getfield 10, 3) := by decide +kernel
theorem dX1_noteWhatIsBrought_15 : decode cX1_noteWhatIsBrought 15 = .ok (.getfield 129, 3) := by decide +kernel
theorem dX1_noteWhatIsBrought_18 : decode cX1_noteWhatIsBrought 18 = .ok (.if_icmp .ge 75, 3) := by decide +kernel
theorem dX1_noteWhatIsBrought_21 : decode cX1_noteWhatIsBrought 21 = .ok (.aload_n 0, 1) := by decide +kernel
theorem dX1_noteWhatIsBrought_22 : decode cX1_noteWhatIsBrought 22 = .ok (.getfield 10, 3) := by decide +kernel
theorem dX1_noteWhatIsBrought_25 : decode cX1_noteWhatIsBrought 25 = .ok (.iload_n 2, 1) := by decide +kernel
theorem dX1_noteWhatIsBrought_26 : decode cX1_noteWhatIsBrought 26 = .ok (.invokevirtual 97, 3) := by decide +kernel
theorem dX1_noteWhatIsBrought_29 : decode cX1_noteWhatIsBrought 29 = .ok (.iload_n 1, 1) := by decide +kernel
theorem dX1_noteWhatIsBrought_30 : decode cX1_noteWhatIsBrought 30 = .ok (.ishr, 1) := by decide +kernel
theorem dX1_noteWhatIsBrought_31 : decode cX1_noteWhatIsBrought 31 = .ok (.iconst 1, 1) := by decide +kernel
theorem dX1_noteWhatIsBrought_32 : decode cX1_noteWhatIsBrought 32 = .ok (.iand, 1) := by decide +kernel
theorem dX1_noteWhatIsBrought_33 : decode cX1_noteWhatIsBrought 33 = .ok (.iconst 1, 1) := by decide +kernel
theorem dX1_noteWhatIsBrought_34 : decode cX1_noteWhatIsBrought 34 = .ok (.if_icmp .ne 7, 3) := by decide +kernel
theorem dX1_noteWhatIsBrought_37 : decode cX1_noteWhatIsBrought 37 = .ok (.iconst 1, 1) := by decide +kernel
theorem dX1_noteWhatIsBrought_38 : decode cX1_noteWhatIsBrought 38 = .ok (.goto 4, 3) := by decide +kernel
theorem dX1_noteWhatIsBrought_41 : decode cX1_noteWhatIsBrought 41 = .ok (.iconst 0, 1) := by decide +kernel
theorem dX1_noteWhatIsBrought_42 : decode cX1_noteWhatIsBrought 42 = .ok (.istore_n 3, 1) := by decide +kernel
theorem dX1_noteWhatIsBrought_43 : decode cX1_noteWhatIsBrought 43 = .ok (.aload_n 0, 1) := by decide +kernel
theorem dX1_noteWhatIsBrought_44 : decode cX1_noteWhatIsBrought 44 = .ok (.getfield 10, 3) := by decide +kernel
theorem dX1_noteWhatIsBrought_47 : decode cX1_noteWhatIsBrought 47 = .ok (.iload_n 2, 1) := by decide +kernel
theorem dX1_noteWhatIsBrought_48 : decode cX1_noteWhatIsBrought 48 = .ok (.invokevirtual 82, 3) := by decide +kernel
theorem dX1_noteWhatIsBrought_51 : decode cX1_noteWhatIsBrought 51 = .ok (.ifCond .ne 36, 3) := by decide +kernel
theorem dX1_noteWhatIsBrought_54 : decode cX1_noteWhatIsBrought 54 = .ok (.iload_n 3, 1) := by decide +kernel
theorem dX1_noteWhatIsBrought_55 : decode cX1_noteWhatIsBrought 55 = .ok (.ifCond .eq 32, 3) := by decide +kernel
theorem dX1_noteWhatIsBrought_58 : decode cX1_noteWhatIsBrought 58 = .ok (.aload_n 0, 1) := by decide +kernel
theorem dX1_noteWhatIsBrought_59 : decode cX1_noteWhatIsBrought 59 = .ok (.getfield 10, 3) := by decide +kernel
theorem dX1_noteWhatIsBrought_62 : decode cX1_noteWhatIsBrought 62 = .ok (.getfield 106, 3) := by decide +kernel
theorem dX1_noteWhatIsBrought_65 : decode cX1_noteWhatIsBrought 65 = .ok (.iload_n 1, 1) := by decide +kernel
theorem dX1_noteWhatIsBrought_66 : decode cX1_noteWhatIsBrought 66 = .ok (.iaload, 1) := by decide +kernel
theorem dX1_noteWhatIsBrought_67 : decode cX1_noteWhatIsBrought 67 = .ok (.ifCond .le 20, 3) := by decide +kernel
theorem dX1_noteWhatIsBrought_70 : decode cX1_noteWhatIsBrought 70 = .ok (.aload_n 0, 1) := by decide +kernel
theorem dX1_noteWhatIsBrought_71 : decode cX1_noteWhatIsBrought 71 = .ok (.getfield 43, 3) := by decide +kernel
theorem dX1_noteWhatIsBrought_74 : decode cX1_noteWhatIsBrought 74 = .ok (.iload_n 2, 1) := by decide +kernel
theorem dX1_noteWhatIsBrought_75 : decode cX1_noteWhatIsBrought 75 = .ok (.iconst 1, 1) := by decide +kernel
theorem dX1_noteWhatIsBrought_76 : decode cX1_noteWhatIsBrought 76 = .ok (.aload_n 0, 1) := by decide +kernel
theorem dX1_noteWhatIsBrought_77 : decode cX1_noteWhatIsBrought 77 = .ok (.getfield 10, 3) := by decide +kernel
theorem dX1_noteWhatIsBrought_80 : decode cX1_noteWhatIsBrought 80 = .ok (.getfield 79, 3) := by decide +kernel
theorem dX1_noteWhatIsBrought_83 : decode cX1_noteWhatIsBrought 83 = .ok (.iload_n 2, 1) := by decide +kernel
theorem dX1_noteWhatIsBrought_84 : decode cX1_noteWhatIsBrought 84 = .ok (.iaload, 1) := by decide +kernel
theorem dX1_noteWhatIsBrought_85 : decode cX1_noteWhatIsBrought 85 = .ok (.ishl, 1) := by decide +kernel
theorem dX1_noteWhatIsBrought_86 : decode cX1_noteWhatIsBrought 86 = .ok (.iastore, 1) := by decide +kernel
theorem dX1_noteWhatIsBrought_87 : decode cX1_noteWhatIsBrought 87 = .ok (.iinc 2 1, 3) := by decide +kernel
theorem dX1_noteWhatIsBrought_90 : decode cX1_noteWhatIsBrought 90 = .ok (.goto (-80), 3) := by decide +kernel
theorem dX1_noteWhatIsBrought_93 : decode cX1_noteWhatIsBrought 93 = .ok (.return_, 1) := by decide +kernel
theorem dX1_makesWhole_0 : decode cX1_makesWhole 0 = .ok (.aload_n 0, 1) := by decide +kernel
theorem dX1_makesWhole_1 : decode cX1_makesWhole 1 = .ok (.getfield 10, 3) := by decide +kernel
theorem dX1_makesWhole_4 : decode cX1_makesWhole 4 = .ok (.iload_n 1, 1) := by decide +kernel
theorem dX1_makesWhole_5 : decode cX1_makesWhole 5 = .ok (.invokevirtual 109, 3) := by decide +kernel
theorem dX1_makesWhole_8 : decode cX1_makesWhole 8 = .ok (.istore_n 3, 1) := by decide +kernel
theorem dX1_makesWhole_9 : decode cX1_makesWhole 9 = .ok (.iconst 0, 1) := by decide +kernel
theorem dX1_makesWhole_10 : decode cX1_makesWhole 10 = .ok (.istore 4, 2) := by decide +kernel
theorem dX1_makesWhole_12 : decode cX1_makesWhole 12 = .ok (.iload 4, 2) := by decide +kernel
theorem dX1_makesWhole_14 : decode cX1_makesWhole 14 = .ok (.aload_n 0, 1) := by decide +kernel
theorem dX1_makesWhole_15 : decode cX1_makesWhole 15 = .ok (.getfield 10, 3) := by decide +kernel
theorem dX1_makesWhole_18 : decode cX1_makesWhole 18 = .ok (.getfield 129, 3) := by decide +kernel
theorem dX1_makesWhole_21 : decode cX1_makesWhole 21 = .ok (.if_icmp .ge 29, 3) := by decide +kernel
theorem dX1_makesWhole_24 : decode cX1_makesWhole 24 = .ok (.iload_n 2, 1) := by decide +kernel
theorem dX1_makesWhole_25 : decode cX1_makesWhole 25 = .ok (.iload 4, 2) := by decide +kernel
theorem dX1_makesWhole_27 : decode cX1_makesWhole 27 = .ok (.ishr, 1) := by decide +kernel
theorem dX1_makesWhole_28 : decode cX1_makesWhole 28 = .ok (.iconst 1, 1) := by decide +kernel
theorem dX1_makesWhole_29 : decode cX1_makesWhole 29 = .ok (.iand, 1) := by decide +kernel
theorem dX1_makesWhole_30 : decode cX1_makesWhole 30 = .ok (.iconst 1, 1) := by decide +kernel
theorem dX1_makesWhole_31 : decode cX1_makesWhole 31 = .ok (.if_icmp .ne 13, 3) := by decide +kernel
theorem dX1_makesWhole_34 : decode cX1_makesWhole 34 = .ok (.iload_n 3, 1) := by decide +kernel
theorem dX1_makesWhole_35 : decode cX1_makesWhole 35 = .ok (.aload_n 0, 1) := by decide +kernel
theorem dX1_makesWhole_36 : decode cX1_makesWhole 36 = .ok (.getfield 43, 3) := by decide +kernel
theorem dX1_makesWhole_39 : decode cX1_makesWhole 39 = .ok (.iload 4, 2) := by decide +kernel
theorem dX1_makesWhole_41 : decode cX1_makesWhole 41 = .ok (.iaload, 1) := by decide +kernel
theorem dX1_makesWhole_42 : decode cX1_makesWhole 42 = .ok (.ior, 1) := by decide +kernel
theorem dX1_makesWhole_43 : decode cX1_makesWhole 43 = .ok (.istore_n 3, 1) := by decide +kernel
theorem dX1_makesWhole_44 : decode cX1_makesWhole 44 = .ok (.iinc 4 1, 3) := by decide +kernel
theorem dX1_makesWhole_47 : decode cX1_makesWhole 47 = .ok (.goto (-35), 3) := by decide +kernel
theorem dX1_makesWhole_50 : decode cX1_makesWhole 50 = .ok (.iload_n 3, 1) := by decide +kernel
theorem dX1_makesWhole_51 : decode cX1_makesWhole 51 = .ok (.bipush 63, 2) := by decide +kernel
theorem dX1_makesWhole_53 : decode cX1_makesWhole 53 = .ok (.if_icmp .ne 7, 3) := by decide +kernel
theorem dX1_makesWhole_56 : decode cX1_makesWhole 56 = .ok (.iconst 1, 1) := by decide +kernel
theorem dX1_makesWhole_57 : decode cX1_makesWhole 57 = .ok (.goto 4, 3) := by decide +kernel
theorem dX1_makesWhole_60 : decode cX1_makesWhole 60 = .ok (.iconst 0, 1) := by decide +kernel
theorem dX1_makesWhole_61 : decode cX1_makesWhole 61 = .ok (.ireturn, 1) := by decide +kernel
theorem dX1_costOfChosen_0 : decode cX1_costOfChosen 0 = .ok (.iconst 0, 1) := by decide +kernel
theorem dX1_costOfChosen_1 : decode cX1_costOfChosen 1 = .ok (.istore_n 2, 1) := by decide +kernel
theorem dX1_costOfChosen_2 : decode cX1_costOfChosen 2 = .ok (.iconst 0, 1) := by decide +kernel
theorem dX1_costOfChosen_3 : decode cX1_costOfChosen 3 = .ok (.istore_n 3, 1) := by decide +kernel
theorem dX1_costOfChosen_4 : decode cX1_costOfChosen 4 = .ok (.iload_n 3, 1) := by decide +kernel
theorem dX1_costOfChosen_5 : decode cX1_costOfChosen 5 = .ok (.aload_n 0, 1) := by decide +kernel
theorem dX1_costOfChosen_6 : decode cX1_costOfChosen 6 = .ok (.getfield 10, 3) := by decide +kernel
theorem dX1_costOfChosen_9 : decode cX1_costOfChosen 9 = .ok (.getfield 129, 3) := by decide +kernel
theorem dX1_costOfChosen_12 : decode cX1_costOfChosen 12 = .ok (.if_icmp .ge 29, 3) := by decide +kernel
theorem dX1_costOfChosen_15 : decode cX1_costOfChosen 15 = .ok (.iload_n 1, 1) := by decide +kernel
theorem dX1_costOfChosen_16 : decode cX1_costOfChosen 16 = .ok (.iload_n 3, 1) := by decide +kernel
theorem dX1_costOfChosen_17 : decode cX1_costOfChosen 17 = .ok (.ishr, 1) := by decide +kernel
theorem dX1_costOfChosen_18 : decode cX1_costOfChosen 18 = .ok (.iconst 1, 1) := by decide +kernel
theorem dX1_costOfChosen_19 : decode cX1_costOfChosen 19 = .ok (.iand, 1) := by decide +kernel
theorem dX1_costOfChosen_20 : decode cX1_costOfChosen 20 = .ok (.iconst 1, 1) := by decide +kernel
theorem dX1_costOfChosen_21 : decode cX1_costOfChosen 21 = .ok (.if_icmp .ne 14, 3) := by decide +kernel
theorem dX1_costOfChosen_24 : decode cX1_costOfChosen 24 = .ok (.iload_n 2, 1) := by decide +kernel
theorem dX1_costOfChosen_25 : decode cX1_costOfChosen 25 = .ok (.aload_n 0, 1) := by decide +kernel
theorem dX1_costOfChosen_26 : decode cX1_costOfChosen 26 = .ok (.getfield 10, 3) := by decide +kernel
theorem dX1_costOfChosen_29 : decode cX1_costOfChosen 29 = .ok (.iload_n 3, 1) := by decide +kernel
theorem dX1_costOfChosen_30 : decode cX1_costOfChosen 30 = .ok (.invokevirtual 85, 3) := by decide +kernel
theorem dX1_costOfChosen_33 : decode cX1_costOfChosen 33 = .ok (.iadd, 1) := by decide +kernel
theorem dX1_costOfChosen_34 : decode cX1_costOfChosen 34 = .ok (.istore_n 2, 1) := by decide +kernel
theorem dX1_costOfChosen_35 : decode cX1_costOfChosen 35 = .ok (.iinc 3 1, 3) := by decide +kernel
theorem dX1_costOfChosen_38 : decode cX1_costOfChosen 38 = .ok (.goto (-34), 3) := by decide +kernel
theorem dX1_costOfChosen_41 : decode cX1_costOfChosen 41 = .ok (.iload_n 2, 1) := by decide +kernel
theorem dX1_costOfChosen_42 : decode cX1_costOfChosen 42 = .ok (.ireturn, 1) := by decide +kernel
theorem dX1_fewestRockets_0 : decode cX1_fewestRockets 0 = .ok (.bipush (-9), 2) := by decide +kernel
theorem dX1_fewestRockets_2 : decode cX1_fewestRockets 2 = .ok (.istore_n 2, 1) := by decide +kernel
theorem dX1_fewestRockets_3 : decode cX1_fewestRockets 3 = .ok (.bipush 10, 2) := by decide +kernel
theorem dX1_fewestRockets_5 : decode cX1_fewestRockets 5 = .ok (.istore_n 3, 1) := by decide +kernel
theorem dX1_fewestRockets_6 : decode cX1_fewestRockets 6 = .ok (.iconst 0, 1) := by decide +kernel
theorem dX1_fewestRockets_7 : decode cX1_fewestRockets 7 = .ok (.istore 4, 2) := by decide +kernel
theorem dX1_fewestRockets_9 : decode cX1_fewestRockets 9 = .ok (.iload 4, 2) := by decide +kernel
theorem dX1_fewestRockets_11 : decode cX1_fewestRockets 11 = .ok (.iconst 1, 1) := by decide +kernel
theorem dX1_fewestRockets_12 : decode cX1_fewestRockets 12 = .ok (.aload_n 0, 1) := by decide +kernel
theorem dX1_fewestRockets_13 : decode cX1_fewestRockets 13 = .ok (.getfield 10, 3) := by decide +kernel
theorem dX1_fewestRockets_16 : decode cX1_fewestRockets 16 = .ok (.getfield 129, 3) := by decide +kernel
theorem dX1_fewestRockets_19 : decode cX1_fewestRockets 19 = .ok (.ishl, 1) := by decide +kernel
theorem dX1_fewestRockets_20 : decode cX1_fewestRockets 20 = .ok (.if_icmp .ge 62, 3) := by decide +kernel
theorem dX1_fewestRockets_23 : decode cX1_fewestRockets 23 = .ok (.iload 4, 2) := by decide +kernel
theorem dX1_fewestRockets_25 : decode cX1_fewestRockets 25 = .ok (.invokestatic 135, 3) := by decide +kernel
theorem dX1_fewestRockets_28 : decode cX1_fewestRockets 28 = .ok (.iload_n 3, 1) := by decide +kernel
theorem dX1_fewestRockets_29 : decode cX1_fewestRockets 29 = .ok (.if_icmp .ge 7, 3) := by decide +kernel
theorem dX1_fewestRockets_32 : decode cX1_fewestRockets 32 = .ok (.iconst 1, 1) := by decide +kernel
theorem dX1_fewestRockets_33 : decode cX1_fewestRockets 33 = .ok (.goto 4, 3) := by decide +kernel
theorem dX1_fewestRockets_36 : decode cX1_fewestRockets 36 = .ok (.iconst 0, 1) := by decide +kernel
theorem dX1_fewestRockets_37 : decode cX1_fewestRockets 37 = .ok (.istore 5, 2) := by decide +kernel
theorem dX1_fewestRockets_39 : decode cX1_fewestRockets 39 = .ok (.iload 5, 2) := by decide +kernel
theorem dX1_fewestRockets_41 : decode cX1_fewestRockets 41 = .ok (.ifCond .eq 35, 3) := by decide +kernel
theorem dX1_fewestRockets_44 : decode cX1_fewestRockets 44 = .ok (.iload 4, 2) := by decide +kernel
theorem dX1_fewestRockets_46 : decode cX1_fewestRockets 46 = .ok (.aload_n 0, 1) := by decide +kernel
theorem dX1_fewestRockets_47 : decode cX1_fewestRockets 47 = .ok (.getfield 10, 3) := by decide +kernel
theorem dX1_fewestRockets_50 : decode cX1_fewestRockets 50 = .ok (.getfield 132, 3) := by decide +kernel
theorem dX1_fewestRockets_53 : decode cX1_fewestRockets 53 = .ok (.iand, 1) := by decide +kernel
theorem dX1_fewestRockets_54 : decode cX1_fewestRockets 54 = .ok (.ifCond .ne 22, 3) := by decide +kernel
theorem dX1_fewestRockets_57 : decode cX1_fewestRockets 57 = .ok (.aload_n 0, 1) := by decide +kernel
theorem dX1_fewestRockets_58 : decode cX1_fewestRockets 58 = .ok (.iload_n 1, 1) := by decide +kernel
theorem dX1_fewestRockets_59 : decode cX1_fewestRockets 59 = .ok (.iload 4, 2) := by decide +kernel
theorem dX1_fewestRockets_61 : decode cX1_fewestRockets 61 = .ok (.invokevirtual 297, 3) := by decide +kernel
theorem dX1_fewestRockets_64 : decode cX1_fewestRockets 64 = .ok (.ifCond .eq 12, 3) := by decide +kernel
theorem dX1_fewestRockets_67 : decode cX1_fewestRockets 67 = .ok (.iload 4, 2) := by decide +kernel
theorem dX1_fewestRockets_69 : decode cX1_fewestRockets 69 = .ok (.invokestatic 135, 3) := by decide +kernel
theorem dX1_fewestRockets_72 : decode cX1_fewestRockets 72 = .ok (.istore_n 3, 1) := by decide +kernel
theorem dX1_fewestRockets_73 : decode cX1_fewestRockets 73 = .ok (.iload 4, 2) := by decide +kernel
theorem dX1_fewestRockets_75 : decode cX1_fewestRockets 75 = .ok (.istore_n 2, 1) := by decide +kernel
theorem dX1_fewestRockets_76 : decode cX1_fewestRockets 76 = .ok (.iinc 4 1, 3) := by decide +kernel
theorem dX1_fewestRockets_79 : decode cX1_fewestRockets 79 = .ok (.goto (-70), 3) := by decide +kernel
theorem dX1_fewestRockets_82 : decode cX1_fewestRockets 82 = .ok (.iload_n 2, 1) := by decide +kernel
theorem dX1_fewestRockets_83 : decode cX1_fewestRockets 83 = .ok (.ireturn, 1) := by decide +kernel
theorem dX1_leastCost_0 : decode cX1_leastCost 0 = .ok (.bipush (-9), 2) := by decide +kernel
theorem dX1_leastCost_2 : decode cX1_leastCost 2 = .ok (.istore_n 2, 1) := by decide +kernel
theorem dX1_leastCost_3 : decode cX1_leastCost 3 = .ok (.iconst 0, 1) := by decide +kernel
theorem dX1_leastCost_4 : decode cX1_leastCost 4 = .ok (.istore_n 3, 1) := by decide +kernel
theorem dX1_leastCost_5 : decode cX1_leastCost 5 = .ok (.iload_n 3, 1) := by decide +kernel
theorem dX1_leastCost_6 : decode cX1_leastCost 6 = .ok (.iconst 1, 1) := by decide +kernel
theorem dX1_leastCost_7 : decode cX1_leastCost 7 = .ok (.aload_n 0, 1) := by decide +kernel
theorem dX1_leastCost_8 : decode cX1_leastCost 8 = .ok (.getfield 10, 3) := by decide +kernel
theorem dX1_leastCost_11 : decode cX1_leastCost 11 = .ok (.getfield 129, 3) := by decide +kernel
theorem dX1_leastCost_14 : decode cX1_leastCost 14 = .ok (.ishl, 1) := by decide +kernel
theorem dX1_leastCost_15 : decode cX1_leastCost 15 = .ok (.if_icmp .ge 52, 3) := by decide +kernel
theorem dX1_leastCost_18 : decode cX1_leastCost 18 = .ok (.iload_n 3, 1) := by decide +kernel
theorem dX1_leastCost_19 : decode cX1_leastCost 19 = .ok (.aload_n 0, 1) := by decide +kernel
theorem dX1_leastCost_20 : decode cX1_leastCost 20 = .ok (.getfield 10, 3) := by decide +kernel
theorem dX1_leastCost_23 : decode cX1_leastCost 23 = .ok (.getfield 132, 3) := by decide +kernel
theorem dX1_leastCost_26 : decode cX1_leastCost 26 = .ok (.iand, 1) := by decide +kernel
theorem dX1_leastCost_27 : decode cX1_leastCost 27 = .ok (.ifCond .ne 34, 3) := by decide +kernel
theorem dX1_leastCost_30 : decode cX1_leastCost 30 = .ok (.aload_n 0, 1) := by decide +kernel
theorem dX1_leastCost_31 : decode cX1_leastCost 31 = .ok (.iload_n 1, 1) := by decide +kernel
theorem dX1_leastCost_32 : decode cX1_leastCost 32 = .ok (.iload_n 3, 1) := by decide +kernel
theorem dX1_leastCost_33 : decode cX1_leastCost 33 = .ok (.invokevirtual 297, 3) := by decide +kernel
theorem dX1_leastCost_36 : decode cX1_leastCost 36 = .ok (.ifCond .eq 25, 3) := by decide +kernel
theorem dX1_leastCost_39 : decode cX1_leastCost 39 = .ok (.aload_n 0, 1) := by decide +kernel
theorem dX1_leastCost_40 : decode cX1_leastCost 40 = .ok (.iload_n 3, 1) := by decide +kernel
theorem dX1_leastCost_41 : decode cX1_leastCost 41 = .ok (.invokevirtual 300, 3) := by decide +kernel
theorem dX1_leastCost_44 : decode cX1_leastCost 44 = .ok (.istore 4, 2) := by decide +kernel
theorem dX1_leastCost_46 : decode cX1_leastCost 46 = .ok (.iload_n 2, 1) := by decide +kernel
theorem dX1_leastCost_47 : decode cX1_leastCost 47 = .ok (.bipush (-9), 2) := by decide +kernel
theorem dX1_leastCost_49 : decode cX1_leastCost 49 = .ok (.if_icmp .eq 9, 3) := by decide +kernel
theorem dX1_leastCost_52 : decode cX1_leastCost 52 = .ok (.iload 4, 2) := by decide +kernel
theorem dX1_leastCost_54 : decode cX1_leastCost 54 = .ok (.iload_n 2, 1) := by decide +kernel
theorem dX1_leastCost_55 : decode cX1_leastCost 55 = .ok (.if_icmp .ge 6, 3) := by decide +kernel
theorem dX1_leastCost_58 : decode cX1_leastCost 58 = .ok (.iload 4, 2) := by decide +kernel
theorem dX1_leastCost_60 : decode cX1_leastCost 60 = .ok (.istore_n 2, 1) := by decide +kernel
theorem dX1_leastCost_61 : decode cX1_leastCost 61 = .ok (.iinc 3 1, 3) := by decide +kernel
theorem dX1_leastCost_64 : decode cX1_leastCost 64 = .ok (.goto (-59), 3) := by decide +kernel
theorem dX1_leastCost_67 : decode cX1_leastCost 67 = .ok (.iload_n 2, 1) := by decide +kernel
theorem dX1_leastCost_68 : decode cX1_leastCost 68 = .ok (.ireturn, 1) := by decide +kernel
theorem dX1_bestToSpend_0 : decode cX1_bestToSpend 0 = .ok (.aload_n 0, 1) := by decide +kernel
theorem dX1_bestToSpend_1 : decode cX1_bestToSpend 1 = .ok (.iload_n 1, 1) := by decide +kernel
theorem dX1_bestToSpend_2 : decode cX1_bestToSpend 2 = .ok (.invokevirtual 153, 3) := by decide +kernel
theorem dX1_bestToSpend_5 : decode cX1_bestToSpend 5 = .ok (.aload_n 0, 1) := by decide +kernel
theorem dX1_bestToSpend_6 : decode cX1_bestToSpend 6 = .ok (.getfield 16, 3) := by decide +kernel
theorem dX1_bestToSpend_9 : decode cX1_bestToSpend 9 = .ok (.invokevirtual 245, 3) := by decide +kernel
theorem dX1_bestToSpend_12 : decode cX1_bestToSpend 12 = .ok (.istore_n 3, 1) := by decide +kernel
theorem dX1_bestToSpend_13 : decode cX1_bestToSpend 13 = .ok (.bipush (-9), 2) := by decide +kernel
theorem dX1_bestToSpend_15 : decode cX1_bestToSpend 15 = .ok (.istore 4, 2) := by decide +kernel
theorem dX1_bestToSpend_17 : decode cX1_bestToSpend 17 = .ok (.iconst 0, 1) := by decide +kernel
theorem dX1_bestToSpend_18 : decode cX1_bestToSpend 18 = .ok (.istore 5, 2) := by decide +kernel
theorem dX1_bestToSpend_20 : decode cX1_bestToSpend 20 = .ok (.iload 5, 2) := by decide +kernel
theorem dX1_bestToSpend_22 : decode cX1_bestToSpend 22 = .ok (.aload_n 0, 1) := by decide +kernel
theorem dX1_bestToSpend_23 : decode cX1_bestToSpend 23 = .ok (.getfield 10, 3) := by decide +kernel
theorem dX1_bestToSpend_26 : decode cX1_bestToSpend 26 = .ok (.getfield 129, 3) := by decide +kernel
theorem dX1_bestToSpend_29 : decode cX1_bestToSpend 29 = .ok (.if_icmp .ge 63, 3) := by decide +kernel
theorem dX1_bestToSpend_32 : decode cX1_bestToSpend 32 = .ok (.iload_n 2, 1) := by decide +kernel
theorem dX1_bestToSpend_33 : decode cX1_bestToSpend 33 = .ok (.ifCond .eq 18, 3) := by decide +kernel
theorem dX1_bestToSpend_36 : decode cX1_bestToSpend 36 = .ok (.aload_n 0, 1) := by decide +kernel
theorem dX1_bestToSpend_37 : decode cX1_bestToSpend 37 = .ok (.getfield 10, 3) := by decide +kernel
theorem dX1_bestToSpend_40 : decode cX1_bestToSpend 40 = .ok (.iload 5, 2) := by decide +kernel
theorem dX1_bestToSpend_42 : decode cX1_bestToSpend 42 = .ok (.invokevirtual 115, 3) := by decide +kernel
theorem dX1_bestToSpend_45 : decode cX1_bestToSpend 45 = .ok (.ifCond .eq 41, 3) := by decide +kernel
theorem dX1_bestToSpend_48 : decode cX1_bestToSpend 48 = .ok (.goto 15, 3) := by decide +kernel
theorem dX1_bestToSpend_51 : decode cX1_bestToSpend 51 = .ok (.aload_n 0, 1) := by decide +kernel
theorem dX1_bestToSpend_52 : decode cX1_bestToSpend 52 = .ok (.getfield 10, 3) := by decide +kernel
theorem dX1_bestToSpend_55 : decode cX1_bestToSpend 55 = .ok (.iload 5, 2) := by decide +kernel
theorem dX1_bestToSpend_57 : decode cX1_bestToSpend 57 = .ok (.invokevirtual 82, 3) := by decide +kernel
theorem dX1_bestToSpend_60 : decode cX1_bestToSpend 60 = .ok (.ifCond .ne 26, 3) := by decide +kernel
theorem dX1_bestToSpend_63 : decode cX1_bestToSpend 63 = .ok (.aload_n 0, 1) := by decide +kernel
theorem dX1_bestToSpend_64 : decode cX1_bestToSpend 64 = .ok (.iload 5, 2) := by decide +kernel
theorem dX1_bestToSpend_66 : decode cX1_bestToSpend 66 = .ok (.iload_n 1, 1) := by decide +kernel
theorem dX1_bestToSpend_67 : decode cX1_bestToSpend 67 = .ok (.iload_n 2, 1) := by decide +kernel
theorem dX1_bestToSpend_68 : decode cX1_bestToSpend 68 = .ok (.invokevirtual 303, 3) := by decide +kernel
theorem dX1_bestToSpend_71 : decode cX1_bestToSpend 71 = .ok (.istore 6, 2) := by decide +kernel
theorem dX1_bestToSpend_73 : decode cX1_bestToSpend 73 = .ok (.iload 6, 2) := by decide +kernel
theorem dX1_bestToSpend_75 : decode cX1_bestToSpend 75 = .ok (.iload_n 3, 1) := by decide +kernel
theorem dX1_bestToSpend_76 : decode cX1_bestToSpend 76 = .ok (.if_icmp .le 10, 3) := by decide +kernel
theorem dX1_bestToSpend_79 : decode cX1_bestToSpend 79 = .ok (.iload 6, 2) := by decide +kernel
theorem dX1_bestToSpend_81 : decode cX1_bestToSpend 81 = .ok (.istore_n 3, 1) := by decide +kernel
theorem dX1_bestToSpend_82 : decode cX1_bestToSpend 82 = .ok (.iload 5, 2) := by decide +kernel
theorem dX1_bestToSpend_84 : decode cX1_bestToSpend 84 = .ok (.istore 4, 2) := by decide +kernel
theorem dX1_bestToSpend_86 : decode cX1_bestToSpend 86 = .ok (.iinc 5 1, 3) := by decide +kernel
theorem dX1_bestToSpend_89 : decode cX1_bestToSpend 89 = .ok (.goto (-69), 3) := by decide +kernel
theorem dX1_bestToSpend_92 : decode cX1_bestToSpend 92 = .ok (.iload 4, 2) := by decide +kernel
theorem dX1_bestToSpend_94 : decode cX1_bestToSpend 94 = .ok (.ireturn, 1) := by decide +kernel
theorem dX1_wordsHadBySpending_0 : decode cX1_wordsHadBySpending 0 = .ok (.aload_n 0, 1) := by decide +kernel
theorem dX1_wordsHadBySpending_1 : decode cX1_wordsHadBySpending 1 = .ok (.getfield 16, 3) := by decide +kernel
theorem dX1_wordsHadBySpending_4 : decode cX1_wordsHadBySpending 4 = .ok (.aload_n 0, 1) := by decide +kernel
theorem dX1_wordsHadBySpending_5 : decode cX1_wordsHadBySpending 5 = .ok (.getfield 10, 3) := by decide +kernel
theorem dX1_wordsHadBySpending_8 : decode cX1_wordsHadBySpending 8 = .ok (.invokevirtual 59, 3) := by decide +kernel
theorem dX1_wordsHadBySpending_11 : decode cX1_wordsHadBySpending 11 = .ok (.iload_n 3, 1) := by decide +kernel
theorem dX1_wordsHadBySpending_12 : decode cX1_wordsHadBySpending 12 = .ok (.ifCond .eq 16, 3) := by decide +kernel
theorem dX1_wordsHadBySpending_15 : decode cX1_wordsHadBySpending 15 = .ok (.aload_n 0, 1) := by decide +kernel
theorem dX1_wordsHadBySpending_16 : decode cX1_wordsHadBySpending 16 = .ok (.getfield 16, 3) := by decide +kernel
theorem dX1_wordsHadBySpending_19 : decode cX1_wordsHadBySpending 19 = .ok (.iload_n 1, 1) := by decide +kernel
theorem dX1_wordsHadBySpending_20 : decode cX1_wordsHadBySpending 20 = .ok (.bipush 31, 2) := by decide +kernel
theorem dX1_wordsHadBySpending_22 : decode cX1_wordsHadBySpending 22 = .ok (.invokevirtual 118, 3) := by decide +kernel
theorem dX1_wordsHadBySpending_25 : decode cX1_wordsHadBySpending 25 = .ok (.goto 11, 3) := by decide +kernel
theorem dX1_wordsHadBySpending_28 : decode cX1_wordsHadBySpending 28 = .ok (.aload_n 0, 1) := by decide +kernel
theorem dX1_wordsHadBySpending_29 : decode cX1_wordsHadBySpending 29 = .ok (.getfield 16, 3) := by decide +kernel
theorem dX1_wordsHadBySpending_32 : decode cX1_wordsHadBySpending 32 = .ok (.iload_n 1, 1) := by decide +kernel
theorem dX1_wordsHadBySpending_33 : decode cX1_wordsHadBySpending 33 = .ok (.invokevirtual 307, 3) := by decide +kernel
theorem dX1_wordsHadBySpending_36 : decode cX1_wordsHadBySpending 36 = .ok (.aload_n 0, 1) := by decide +kernel
theorem dX1_wordsHadBySpending_37 : decode cX1_wordsHadBySpending 37 = .ok (.getfield 16, 3) := by decide +kernel
theorem dX1_wordsHadBySpending_40 : decode cX1_wordsHadBySpending 40 = .ok (.iload_n 2, 1) := by decide +kernel
theorem dX1_wordsHadBySpending_41 : decode cX1_wordsHadBySpending 41 = .ok (.bipush 31, 2) := by decide +kernel
theorem dX1_wordsHadBySpending_43 : decode cX1_wordsHadBySpending 43 = .ok (.invokevirtual 150, 3) := by decide +kernel
theorem dX1_wordsHadBySpending_46 : decode cX1_wordsHadBySpending 46 = .ok (.aload_n 0, 1) := by decide +kernel
theorem dX1_wordsHadBySpending_47 : decode cX1_wordsHadBySpending 47 = .ok (.getfield 16, 3) := by decide +kernel
theorem dX1_wordsHadBySpending_50 : decode cX1_wordsHadBySpending 50 = .ok (.invokevirtual 245, 3) := by decide +kernel
theorem dX1_wordsHadBySpending_53 : decode cX1_wordsHadBySpending 53 = .ok (.ireturn, 1) := by decide +kernel
theorem dX1_longestDark_0 : decode cX1_longestDark 0 = .ok (.bipush (-9), 2) := by decide +kernel
theorem dX1_longestDark_2 : decode cX1_longestDark 2 = .ok (.istore_n 1, 1) := by decide +kernel
theorem dX1_longestDark_3 : decode cX1_longestDark 3 = .ok (.iconst (-1), 1) := by decide +kernel
theorem dX1_longestDark_4 : decode cX1_longestDark 4 = .ok (.istore_n 2, 1) := by decide +kernel
theorem dX1_longestDark_5 : decode cX1_longestDark 5 = .ok (.iconst 0, 1) := by decide +kernel
theorem dX1_longestDark_6 : decode cX1_longestDark 6 = .ok (.istore_n 3, 1) := by decide +kernel
theorem dX1_longestDark_7 : decode cX1_longestDark 7 = .ok (.iload_n 3, 1) := by decide +kernel
theorem dX1_longestDark_8 : decode cX1_longestDark 8 = .ok (.aload_n 0, 1) := by decide +kernel
theorem dX1_longestDark_9 : decode cX1_longestDark 9 = .ok (.getfield 10, 3) := by decide +kernel
theorem dX1_longestDark_12 : decode cX1_longestDark 12 = .ok (.getfield 129, 3) := by decide +kernel
theorem dX1_longestDark_15 : decode cX1_longestDark 15 = .ok (.if_icmp .ge 30, 3) := by decide +kernel
theorem dX1_longestDark_18 : decode cX1_longestDark 18 = .ok (.aload_n 0, 1) := by decide +kernel
theorem dX1_longestDark_19 : decode cX1_longestDark 19 = .ok (.getfield 10, 3) := by decide +kernel
theorem dX1_longestDark_22 : decode cX1_longestDark 22 = .ok (.iload_n 3, 1) := by decide +kernel
theorem dX1_longestDark_23 : decode cX1_longestDark 23 = .ok (.invokevirtual 91, 3) := by decide +kernel
theorem dX1_longestDark_26 : decode cX1_longestDark 26 = .ok (.istore 4, 2) := by decide +kernel
theorem dX1_longestDark_28 : decode cX1_longestDark 28 = .ok (.iload 4, 2) := by decide +kernel
theorem dX1_longestDark_30 : decode cX1_longestDark 30 = .ok (.iload_n 2, 1) := by decide +kernel
theorem dX1_longestDark_31 : decode cX1_longestDark 31 = .ok (.if_icmp .le 8, 3) := by decide +kernel
theorem dX1_longestDark_34 : decode cX1_longestDark 34 = .ok (.iload 4, 2) := by decide +kernel
theorem dX1_longestDark_36 : decode cX1_longestDark 36 = .ok (.istore_n 2, 1) := by decide +kernel
theorem dX1_longestDark_37 : decode cX1_longestDark 37 = .ok (.iload_n 3, 1) := by decide +kernel
theorem dX1_longestDark_38 : decode cX1_longestDark 38 = .ok (.istore_n 1, 1) := by decide +kernel
theorem dX1_longestDark_39 : decode cX1_longestDark 39 = .ok (.iinc 3 1, 3) := by decide +kernel
theorem dX1_longestDark_42 : decode cX1_longestDark 42 = .ok (.goto (-35), 3) := by decide +kernel
theorem dX1_longestDark_45 : decode cX1_longestDark 45 = .ok (.iload_n 1, 1) := by decide +kernel
theorem dX1_longestDark_46 : decode cX1_longestDark 46 = .ok (.ireturn, 1) := by decide +kernel
theorem dX1_costOfTheBox_0 : decode cX1_costOfTheBox 0 = .ok (.aload_n 0, 1) := by decide +kernel
theorem dX1_costOfTheBox_1 : decode cX1_costOfTheBox 1 = .ok (.aload_n 0, 1) := by decide +kernel
theorem dX1_costOfTheBox_2 : decode cX1_costOfTheBox 2 = .ok (.getfield 10, 3) := by decide +kernel
theorem dX1_costOfTheBox_5 : decode cX1_costOfTheBox 5 = .ok (.getfield 132, 3) := by decide +kernel
theorem dX1_costOfTheBox_8 : decode cX1_costOfTheBox 8 = .ok (.iconst (-1), 1) := by decide +kernel
theorem dX1_costOfTheBox_9 : decode cX1_costOfTheBox 9 = .ok (.ixor, 1) := by decide +kernel
theorem dX1_costOfTheBox_10 : decode cX1_costOfTheBox 10 = .ok (.invokevirtual 300, 3) := by decide +kernel
theorem dX1_costOfTheBox_13 : decode cX1_costOfTheBox 13 = .ok (.ireturn, 1) := by decide +kernel
theorem dX1_lackingWords_0 : decode cX1_lackingWords 0 = .ok (.bipush 63, 2) := by decide +kernel
theorem dX1_lackingWords_2 : decode cX1_lackingWords 2 = .ok (.istore_n 1, 1) := by decide +kernel
theorem dX1_lackingWords_3 : decode cX1_lackingWords 3 = .ok (.iconst 0, 1) := by decide +kernel
theorem dX1_lackingWords_4 : decode cX1_lackingWords 4 = .ok (.istore_n 2, 1) := by decide +kernel
theorem dX1_lackingWords_5 : decode cX1_lackingWords 5 = .ok (.iload_n 2, 1) := by decide +kernel
theorem dX1_lackingWords_6 : decode cX1_lackingWords 6 = .ok (.aload_n 0, 1) := by decide +kernel
theorem dX1_lackingWords_7 : decode cX1_lackingWords 7 = .ok (.getfield 10, 3) := by decide +kernel
theorem dX1_lackingWords_10 : decode cX1_lackingWords 10 = .ok (.getfield 129, 3) := by decide +kernel
theorem dX1_lackingWords_13 : decode cX1_lackingWords 13 = .ok (.if_icmp .ge 25, 3) := by decide +kernel
theorem dX1_lackingWords_16 : decode cX1_lackingWords 16 = .ok (.iload_n 1, 1) := by decide +kernel
theorem dX1_lackingWords_17 : decode cX1_lackingWords 17 = .ok (.iconst 1, 1) := by decide +kernel
theorem dX1_lackingWords_18 : decode cX1_lackingWords 18 = .ok (.aload_n 0, 1) := by decide +kernel
theorem dX1_lackingWords_19 : decode cX1_lackingWords 19 = .ok (.getfield 10, 3) := by decide +kernel
theorem dX1_lackingWords_22 : decode cX1_lackingWords 22 = .ok (.getfield 79, 3) := by decide +kernel
theorem dX1_lackingWords_25 : decode cX1_lackingWords 25 = .ok (.iload_n 2, 1) := by decide +kernel
theorem dX1_lackingWords_26 : decode cX1_lackingWords 26 = .ok (.iaload, 1) := by decide +kernel
theorem dX1_lackingWords_27 : decode cX1_lackingWords 27 = .ok (.ishl, 1) := by decide +kernel
theorem dX1_lackingWords_28 : decode cX1_lackingWords 28 = .ok (.iconst (-1), 1) := by decide +kernel
theorem dX1_lackingWords_29 : decode cX1_lackingWords 29 = .ok (.ixor, 1) := by decide +kernel
theorem dX1_lackingWords_30 : decode cX1_lackingWords 30 = .ok (.iand, 1) := by decide +kernel
theorem dX1_lackingWords_31 : decode cX1_lackingWords 31 = .ok (.istore_n 1, 1) := by decide +kernel
theorem dX1_lackingWords_32 : decode cX1_lackingWords 32 = .ok (.iinc 2 1, 3) := by decide +kernel
theorem dX1_lackingWords_35 : decode cX1_lackingWords 35 = .ok (.goto (-30), 3) := by decide +kernel
theorem dX1_lackingWords_38 : decode cX1_lackingWords 38 = .ok (.iload_n 1, 1) := by decide +kernel
theorem dX1_lackingWords_39 : decode cX1_lackingWords 39 = .ok (.ireturn, 1) := by decide +kernel
theorem dX1_knownWords_0 : decode cX1_knownWords 0 = .ok (.bipush 63, 2) := by decide +kernel
theorem dX1_knownWords_2 : decode cX1_knownWords 2 = .ok (.istore_n 1, 1) := by decide +kernel
theorem dX1_knownWords_3 : decode cX1_knownWords 3 = .ok (.iconst 0, 1) := by decide +kernel
theorem dX1_knownWords_4 : decode cX1_knownWords 4 = .ok (.istore_n 2, 1) := by decide +kernel
theorem dX1_knownWords_5 : decode cX1_knownWords 5 = .ok (.iload_n 2, 1) := by decide +kernel
theorem dX1_knownWords_6 : decode cX1_knownWords 6 = .ok (.aload_n 0, 1) := by decide +kernel
theorem dX1_knownWords_7 : decode cX1_knownWords 7 = .ok (.getfield 10, 3) := by decide +kernel
theorem dX1_knownWords_10 : decode cX1_knownWords 10 = .ok (.getfield 203, 3) := by decide +kernel
theorem dX1_knownWords_13 : decode cX1_knownWords 13 = .ok (.if_icmp .ge 20, 3) := by decide +kernel
theorem dX1_knownWords_16 : decode cX1_knownWords 16 = .ok (.iload_n 1, 1) := by decide +kernel
theorem dX1_knownWords_17 : decode cX1_knownWords 17 = .ok (.aload_n 0, 1) := by decide +kernel
theorem dX1_knownWords_18 : decode cX1_knownWords 18 = .ok (.getfield 10, 3) := by decide +kernel
theorem dX1_knownWords_21 : decode cX1_knownWords 21 = .ok (.iload_n 2, 1) := by decide +kernel
theorem dX1_knownWords_22 : decode cX1_knownWords 22 = .ok (.invokevirtual 109, 3) := by decide +kernel
theorem dX1_knownWords_25 : decode cX1_knownWords 25 = .ok (.iand, 1) := by decide +kernel
theorem dX1_knownWords_26 : decode cX1_knownWords 26 = .ok (.istore_n 1, 1) := by decide +kernel
theorem dX1_knownWords_27 : decode cX1_knownWords 27 = .ok (.iinc 2 1, 3) := by decide +kernel
theorem dX1_knownWords_30 : decode cX1_knownWords 30 = .ok (.goto (-25), 3) := by decide +kernel
theorem dX1_knownWords_33 : decode cX1_knownWords 33 = .ok (.iload_n 1, 1) := by decide +kernel
theorem dX1_knownWords_34 : decode cX1_knownWords 34 = .ok (.ireturn, 1) := by decide +kernel
theorem dX1_rarestWord_0 : decode cX1_rarestWord 0 = .ok (.iconst 0, 1) := by decide +kernel
theorem dX1_rarestWord_1 : decode cX1_rarestWord 1 = .ok (.istore_n 1, 1) := by decide +kernel
theorem dX1_rarestWord_2 : decode cX1_rarestWord 2 = .ok (.bipush 6, 2) := by decide +kernel
theorem dX1_rarestWord_4 : decode cX1_rarestWord 4 = .ok (.istore_n 2, 1) := by decide +kernel
theorem dX1_rarestWord_5 : decode cX1_rarestWord 5 = .ok (.iconst 0, 1) := by decide +kernel
theorem dX1_rarestWord_6 : decode cX1_rarestWord 6 = .ok (.istore_n 3, 1) := by decide +kernel
theorem dX1_rarestWord_7 : decode cX1_rarestWord 7 = .ok (.iload_n 3, 1) := by decide +kernel
theorem dX1_rarestWord_8 : decode cX1_rarestWord 8 = .ok (.bipush 6, 2) := by decide +kernel
theorem dX1_rarestWord_10 : decode cX1_rarestWord 10 = .ok (.if_icmp .ge 62, 3) := by decide +kernel
theorem dX1_rarestWord_13 : decode cX1_rarestWord 13 = .ok (.iconst 0, 1) := by decide +kernel
theorem dX1_rarestWord_14 : decode cX1_rarestWord 14 = .ok (.istore 4, 2) := by decide +kernel
theorem dX1_rarestWord_16 : decode cX1_rarestWord 16 = .ok (.iconst 0, 1) := by decide +kernel
theorem dX1_rarestWord_17 : decode cX1_rarestWord 17 = .ok (.istore 5, 2) := by decide +kernel
theorem dX1_rarestWord_19 : decode cX1_rarestWord 19 = .ok (.iload 5, 2) := by decide +kernel
theorem dX1_rarestWord_21 : decode cX1_rarestWord 21 = .ok (.aload_n 0, 1) := by decide +kernel
theorem dX1_rarestWord_22 : decode cX1_rarestWord 22 = .ok (.getfield 10, 3) := by decide +kernel
theorem dX1_rarestWord_25 : decode cX1_rarestWord 25 = .ok (.getfield 203, 3) := by decide +kernel
theorem dX1_rarestWord_28 : decode cX1_rarestWord 28 = .ok (.if_icmp .ge 27, 3) := by decide +kernel
theorem dX1_rarestWord_31 : decode cX1_rarestWord 31 = .ok (.iload 4, 2) := by decide +kernel
theorem dX1_rarestWord_33 : decode cX1_rarestWord 33 = .ok (.aload_n 0, 1) := by decide +kernel
theorem dX1_rarestWord_34 : decode cX1_rarestWord 34 = .ok (.getfield 10, 3) := by decide +kernel
theorem dX1_rarestWord_37 : decode cX1_rarestWord 37 = .ok (.iload 5, 2) := by decide +kernel
theorem dX1_rarestWord_39 : decode cX1_rarestWord 39 = .ok (.invokevirtual 109, 3) := by decide +kernel
theorem dX1_rarestWord_42 : decode cX1_rarestWord 42 = .ok (.iload_n 3, 1) := by decide +kernel
theorem dX1_rarestWord_43 : decode cX1_rarestWord 43 = .ok (.ishr, 1) := by decide +kernel
theorem dX1_rarestWord_44 : decode cX1_rarestWord 44 = .ok (.iconst 1, 1) := by decide +kernel
theorem dX1_rarestWord_45 : decode cX1_rarestWord 45 = .ok (.iand, 1) := by decide +kernel
theorem dX1_rarestWord_46 : decode cX1_rarestWord 46 = .ok (.iadd, 1) := by decide +kernel
theorem dX1_rarestWord_47 : decode cX1_rarestWord 47 = .ok (.istore 4, 2) := by decide +kernel
theorem dX1_rarestWord_49 : decode cX1_rarestWord 49 = .ok (.iinc 5 1, 3) := by decide +kernel
theorem dX1_rarestWord_52 : decode cX1_rarestWord 52 = .ok (.goto (-33), 3) := by decide +kernel
theorem dX1_rarestWord_55 : decode cX1_rarestWord 55 = .ok (.iload 4, 2) := by decide +kernel
theorem dX1_rarestWord_57 : decode cX1_rarestWord 57 = .ok (.iload_n 2, 1) := by decide +kernel
theorem dX1_rarestWord_58 : decode cX1_rarestWord 58 = .ok (.if_icmp .ge 8, 3) := by decide +kernel
theorem dX1_rarestWord_61 : decode cX1_rarestWord 61 = .ok (.iload 4, 2) := by decide +kernel
theorem dX1_rarestWord_63 : decode cX1_rarestWord 63 = .ok (.istore_n 2, 1) := by decide +kernel
theorem dX1_rarestWord_64 : decode cX1_rarestWord 64 = .ok (.iload_n 3, 1) := by decide +kernel
theorem dX1_rarestWord_65 : decode cX1_rarestWord 65 = .ok (.istore_n 1, 1) := by decide +kernel
theorem dX1_rarestWord_66 : decode cX1_rarestWord 66 = .ok (.iinc 3 1, 3) := by decide +kernel
theorem dX1_rarestWord_69 : decode cX1_rarestWord 69 = .ok (.goto (-62), 3) := by decide +kernel
theorem dX1_rarestWord_72 : decode cX1_rarestWord 72 = .ok (.iload_n 1, 1) := by decide +kernel
theorem dX1_rarestWord_73 : decode cX1_rarestWord 73 = .ok (.ireturn, 1) := by decide +kernel
theorem dX1_noteWhatPairGets_0 : decode cX1_noteWhatPairGets 0 = .ok (.iload 4, 2) := by decide +kernel
theorem dX1_noteWhatPairGets_2 : decode cX1_noteWhatPairGets 2 = .ok (.iconst 1, 1) := by decide +kernel
theorem dX1_noteWhatPairGets_3 : decode cX1_noteWhatPairGets 3 = .ok (.ishr, 1) := by decide +kernel
theorem dX1_noteWhatPairGets_4 : decode cX1_noteWhatPairGets 4 = .ok (.istore 5, 2) := by decide +kernel
theorem dX1_noteWhatPairGets_6 : decode cX1_noteWhatPairGets 6 = .ok (.iload 4, 2) := by decide +kernel
theorem dX1_noteWhatPairGets_8 : decode cX1_noteWhatPairGets 8 = .ok (.iconst 1, 1) := by decide +kernel
theorem dX1_noteWhatPairGets_9 : decode cX1_noteWhatPairGets 9 = .ok (.iand, 1) := by decide +kernel
theorem dX1_noteWhatPairGets_10 : decode cX1_noteWhatPairGets 10 = .ok (.istore 6, 2) := by decide +kernel
theorem dX1_noteWhatPairGets_12 : decode cX1_noteWhatPairGets 12 = .ok (.iconst 1, 1) := by decide +kernel
theorem dX1_noteWhatPairGets_13 : decode cX1_noteWhatPairGets 13 = .ok (.iload 5, 2) := by decide +kernel
theorem dX1_noteWhatPairGets_15 : decode cX1_noteWhatPairGets 15 = .ok (.isub, 1) := by decide +kernel
theorem dX1_noteWhatPairGets_16 : decode cX1_noteWhatPairGets 16 = .ok (.iload_n 1, 1) := by decide +kernel
theorem dX1_noteWhatPairGets_17 : decode cX1_noteWhatPairGets 17 = .ok (.ishl, 1) := by decide +kernel
theorem dX1_noteWhatPairGets_18 : decode cX1_noteWhatPairGets 18 = .ok (.iconst 1, 1) := by decide +kernel
theorem dX1_noteWhatPairGets_19 : decode cX1_noteWhatPairGets 19 = .ok (.iload 6, 2) := by decide +kernel
theorem dX1_noteWhatPairGets_21 : decode cX1_noteWhatPairGets 21 = .ok (.isub, 1) := by decide +kernel
theorem dX1_noteWhatPairGets_22 : decode cX1_noteWhatPairGets 22 = .ok (.iload_n 2, 1) := by decide +kernel
theorem dX1_noteWhatPairGets_23 : decode cX1_noteWhatPairGets 23 = .ok (.ishl, 1) := by decide +kernel
theorem dX1_noteWhatPairGets_24 : decode cX1_noteWhatPairGets 24 = .ok (.ior, 1) := by decide +kernel
theorem dX1_noteWhatPairGets_25 : decode cX1_noteWhatPairGets 25 = .ok (.istore 7, 2) := by decide +kernel
theorem dX1_noteWhatPairGets_27 : decode cX1_noteWhatPairGets 27 = .ok (.aload_n 0, 1) := by decide +kernel
theorem dX1_noteWhatPairGets_28 : decode cX1_noteWhatPairGets 28 = .ok (.getfield 16, 3) := by decide +kernel
theorem dX1_noteWhatPairGets_31 : decode cX1_noteWhatPairGets 31 = .ok (.aload_n 0, 1) := by decide +kernel
theorem dX1_noteWhatPairGets_32 : decode cX1_noteWhatPairGets 32 = .ok (.getfield 10, 3) := by decide +kernel
theorem dX1_noteWhatPairGets_35 : decode cX1_noteWhatPairGets 35 = .ok (.invokevirtual 59, 3) := by decide +kernel
theorem dX1_noteWhatPairGets_38 : decode cX1_noteWhatPairGets 38 = .ok (.aload_n 0, 1) := by decide +kernel
theorem dX1_noteWhatPairGets_39 : decode cX1_noteWhatPairGets 39 = .ok (.getfield 16, 3) := by decide +kernel
theorem dX1_noteWhatPairGets_42 : decode cX1_noteWhatPairGets 42 = .ok (.iload_n 3, 1) := by decide +kernel
theorem dX1_noteWhatPairGets_43 : decode cX1_noteWhatPairGets 43 = .ok (.bipush 31, 2) := by decide +kernel
theorem dX1_noteWhatPairGets_45 : decode cX1_noteWhatPairGets 45 = .ok (.iload 7, 2) := by decide +kernel
theorem dX1_noteWhatPairGets_47 : decode cX1_noteWhatPairGets 47 = .ok (.iconst (-1), 1) := by decide +kernel
theorem dX1_noteWhatPairGets_48 : decode cX1_noteWhatPairGets 48 = .ok (.ixor, 1) := by decide +kernel
theorem dX1_noteWhatPairGets_49 : decode cX1_noteWhatPairGets 49 = .ok (.iand, 1) := by decide +kernel
theorem dX1_noteWhatPairGets_50 : decode cX1_noteWhatPairGets 50 = .ok (.invokevirtual 150, 3) := by decide +kernel
theorem dX1_noteWhatPairGets_53 : decode cX1_noteWhatPairGets 53 = .ok (.aload_n 0, 1) := by decide +kernel
theorem dX1_noteWhatPairGets_54 : decode cX1_noteWhatPairGets 54 = .ok (.getfield 46, 3) := by decide +kernel
theorem dX1_noteWhatPairGets_57 : decode cX1_noteWhatPairGets 57 = .ok (.iload 4, 2) := by decide +kernel
theorem dX1_noteWhatPairGets_59 : decode cX1_noteWhatPairGets 59 = .ok (.aload_n 0, 1) := by decide +kernel
theorem dX1_noteWhatPairGets_60 : decode cX1_noteWhatPairGets 60 = .ok (.iload_n 1, 1) := by decide +kernel
theorem dX1_noteWhatPairGets_61 : decode cX1_noteWhatPairGets 61 = .ok (.iload_n 2, 1) := by decide +kernel
theorem dX1_noteWhatPairGets_62 : decode cX1_noteWhatPairGets 62 = .ok (.invokevirtual 310, 3) := by decide +kernel
theorem dX1_noteWhatPairGets_65 : decode cX1_noteWhatPairGets 65 = .ok (.iload 5, 2) := by decide +kernel
theorem dX1_noteWhatPairGets_67 : decode cX1_noteWhatPairGets 67 = .ok (.isub, 1) := by decide +kernel
theorem dX1_noteWhatPairGets_68 : decode cX1_noteWhatPairGets 68 = .ok (.iastore, 1) := by decide +kernel
theorem dX1_noteWhatPairGets_69 : decode cX1_noteWhatPairGets 69 = .ok (.aload_n 0, 1) := by decide +kernel
theorem dX1_noteWhatPairGets_70 : decode cX1_noteWhatPairGets 70 = .ok (.getfield 49, 3) := by decide +kernel
theorem dX1_noteWhatPairGets_73 : decode cX1_noteWhatPairGets 73 = .ok (.iload 4, 2) := by decide +kernel
theorem dX1_noteWhatPairGets_75 : decode cX1_noteWhatPairGets 75 = .ok (.aload_n 0, 1) := by decide +kernel
theorem dX1_noteWhatPairGets_76 : decode cX1_noteWhatPairGets 76 = .ok (.iload_n 2, 1) := by decide +kernel
theorem dX1_noteWhatPairGets_77 : decode cX1_noteWhatPairGets 77 = .ok (.iload_n 1, 1) := by decide +kernel
theorem dX1_noteWhatPairGets_78 : decode cX1_noteWhatPairGets 78 = .ok (.invokevirtual 310, 3) := by decide +kernel
theorem dX1_noteWhatPairGets_81 : decode cX1_noteWhatPairGets 81 = .ok (.iload 6, 2) := by decide +kernel
theorem dX1_noteWhatPairGets_83 : decode cX1_noteWhatPairGets 83 = .ok (.isub, 1) := by decide +kernel
theorem dX1_noteWhatPairGets_84 : decode cX1_noteWhatPairGets 84 = .ok (.iastore, 1) := by decide +kernel
theorem dX1_noteWhatPairGets_85 : decode cX1_noteWhatPairGets 85 = .ok (.return_, 1) := by decide +kernel
theorem dX1_gain_0 : decode cX1_gain 0 = .ok (.aload_n 0, 1) := by decide +kernel
theorem dX1_gain_1 : decode cX1_gain 1 = .ok (.getfield 16, 3) := by decide +kernel
theorem dX1_gain_4 : decode cX1_gain 4 = .ok (.iload_n 1, 1) := by decide +kernel
theorem dX1_gain_5 : decode cX1_gain 5 = .ok (.invokevirtual 109, 3) := by decide +kernel
theorem dX1_gain_8 : decode cX1_gain 8 = .ok (.invokestatic 135, 3) := by decide +kernel
theorem dX1_gain_11 : decode cX1_gain 11 = .ok (.istore_n 3, 1) := by decide +kernel
theorem dX1_gain_12 : decode cX1_gain 12 = .ok (.aload_n 0, 1) := by decide +kernel
theorem dX1_gain_13 : decode cX1_gain 13 = .ok (.getfield 16, 3) := by decide +kernel
theorem dX1_gain_16 : decode cX1_gain 16 = .ok (.iload_n 1, 1) := by decide +kernel
theorem dX1_gain_17 : decode cX1_gain 17 = .ok (.invokevirtual 288, 3) := by decide +kernel
theorem dX1_gain_20 : decode cX1_gain 20 = .ok (.ifCond .eq 20, 3) := by decide +kernel
theorem dX1_gain_23 : decode cX1_gain 23 = .ok (.aload_n 0, 1) := by decide +kernel
theorem dX1_gain_24 : decode cX1_gain 24 = .ok (.getfield 16, 3) := by decide +kernel
theorem dX1_gain_27 : decode cX1_gain 27 = .ok (.iload_n 2, 1) := by decide +kernel
theorem dX1_gain_28 : decode cX1_gain 28 = .ok (.invokevirtual 288, 3) := by decide +kernel
theorem dX1_gain_31 : decode cX1_gain 31 = .ok (.ifCond .ne 9, 3) := by decide +kernel
theorem dX1_gain_34 : decode cX1_gain 34 = .ok (.iload_n 3, 1) := by decide +kernel
theorem dX1_gain_35 : decode cX1_gain 35 = .ok (.iconst 3, 1) := by decide +kernel
theorem dX1_gain_36 : decode cX1_gain 36 = .ok (.iadd, 1) := by decide +kernel
theorem dX1_gain_37 : decode cX1_gain 37 = .ok (.goto 4, 3) := by decide +kernel
theorem dX1_gain_40 : decode cX1_gain 40 = .ok (.iload_n 3, 1) := by decide +kernel
theorem dX1_gain_41 : decode cX1_gain 41 = .ok (.ireturn, 1) := by decide +kernel
theorem dX1_isWholeAfter_0 : decode cX1_isWholeAfter 0 = .ok (.aload_n 0, 1) := by decide +kernel
theorem dX1_isWholeAfter_1 : decode cX1_isWholeAfter 1 = .ok (.getfield 16, 3) := by decide +kernel
theorem dX1_isWholeAfter_4 : decode cX1_isWholeAfter 4 = .ok (.aload_n 0, 1) := by decide +kernel
theorem dX1_isWholeAfter_5 : decode cX1_isWholeAfter 5 = .ok (.getfield 10, 3) := by decide +kernel
theorem dX1_isWholeAfter_8 : decode cX1_isWholeAfter 8 = .ok (.invokevirtual 59, 3) := by decide +kernel
theorem dX1_isWholeAfter_11 : decode cX1_isWholeAfter 11 = .ok (.iconst 0, 1) := by decide +kernel
theorem dX1_isWholeAfter_12 : decode cX1_isWholeAfter 12 = .ok (.istore 4, 2) := by decide +kernel
theorem dX1_isWholeAfter_14 : decode cX1_isWholeAfter 14 = .ok (.iload 4, 2) := by decide +kernel
theorem dX1_isWholeAfter_16 : decode cX1_isWholeAfter 16 = .ok (.iload_n 2, 1) := by decide +kernel
theorem dX1_isWholeAfter_17 : decode cX1_isWholeAfter 17 = .ok (.if_icmp .ge 33, 3) := by decide +kernel
theorem dX1_isWholeAfter_20 : decode cX1_isWholeAfter 20 = .ok (.aload_n 0, 1) := by decide +kernel
theorem dX1_isWholeAfter_21 : decode cX1_isWholeAfter 21 = .ok (.getfield 16, 3) := by decide +kernel
theorem dX1_isWholeAfter_24 : decode cX1_isWholeAfter 24 = .ok (.iconst 1, 1) := by decide +kernel
theorem dX1_isWholeAfter_25 : decode cX1_isWholeAfter 25 = .ok (.iload_n 3, 1) := by decide +kernel
theorem dX1_isWholeAfter_26 : decode cX1_isWholeAfter 26 = .ok (.iload 4, 2) := by decide +kernel
theorem dX1_isWholeAfter_28 : decode cX1_isWholeAfter 28 = .ok (.ishr, 1) := by decide +kernel
theorem dX1_isWholeAfter_29 : decode cX1_isWholeAfter 29 = .ok (.iconst 1, 1) := by decide +kernel
theorem dX1_isWholeAfter_30 : decode cX1_isWholeAfter 30 = .ok (.iand, 1) := by decide +kernel
theorem dX1_isWholeAfter_31 : decode cX1_isWholeAfter 31 = .ok (.iconst 1, 1) := by decide +kernel
theorem dX1_isWholeAfter_32 : decode cX1_isWholeAfter 32 = .ok (.if_icmp .ne 8, 3) := by decide +kernel
theorem dX1_isWholeAfter_35 : decode cX1_isWholeAfter 35 = .ok (.bipush 31, 2) := by decide +kernel
theorem dX1_isWholeAfter_37 : decode cX1_isWholeAfter 37 = .ok (.goto 4, 3) := by decide +kernel
theorem dX1_isWholeAfter_40 : decode cX1_isWholeAfter 40 = .ok (.iconst 0, 1) := by decide +kernel
theorem dX1_isWholeAfter_41 : decode cX1_isWholeAfter 41 = .ok (.invokevirtual 150, 3) := by decide +kernel
theorem dX1_isWholeAfter_44 : decode cX1_isWholeAfter 44 = .ok (.iinc 4 1, 3) := by decide +kernel
theorem dX1_isWholeAfter_47 : decode cX1_isWholeAfter 47 = .ok (.goto (-33), 3) := by decide +kernel
theorem dX1_isWholeAfter_50 : decode cX1_isWholeAfter 50 = .ok (.aload_n 0, 1) := by decide +kernel
theorem dX1_isWholeAfter_51 : decode cX1_isWholeAfter 51 = .ok (.getfield 16, 3) := by decide +kernel
theorem dX1_isWholeAfter_54 : decode cX1_isWholeAfter 54 = .ok (.iload_n 1, 1) := by decide +kernel
theorem dX1_isWholeAfter_55 : decode cX1_isWholeAfter 55 = .ok (.invokevirtual 288, 3) := by decide +kernel
theorem dX1_isWholeAfter_58 : decode cX1_isWholeAfter 58 = .ok (.ireturn, 1) := by decide +kernel
theorem dX1_rowFitsMind_0 : decode cX1_rowFitsMind 0 = .ok (.aload_n 0, 1) := by decide +kernel
theorem dX1_rowFitsMind_1 : decode cX1_rowFitsMind 1 = .ok (.getfield 37, 3) := by decide +kernel
theorem dX1_rowFitsMind_4 : decode cX1_rowFitsMind 4 = .ok (.aload_n 0, 1) := by decide +kernel
theorem dX1_rowFitsMind_5 : decode cX1_rowFitsMind 5 = .ok (.getfield 16, 3) := by decide +kernel
theorem dX1_rowFitsMind_8 : decode cX1_rowFitsMind 8 = .ok (.getfield 203, 3) := by decide +kernel
theorem dX1_rowFitsMind_11 : decode cX1_rowFitsMind 11 = .ok (.if_icmp .le 5, 3) := by decide +kernel
theorem dX1_rowFitsMind_14 : decode cX1_rowFitsMind 14 = .ok (.iconst 0, 1) := by decide +kernel
theorem dX1_rowFitsMind_15 : decode cX1_rowFitsMind 15 = .ok (.ireturn, 1) := by decide +kernel
theorem dX1_rowFitsMind_16 : decode cX1_rowFitsMind 16 = .ok (.iconst 0, 1) := by decide +kernel
theorem dX1_rowFitsMind_17 : decode cX1_rowFitsMind 17 = .ok (.istore_n 1, 1) := by decide +kernel
theorem dX1_rowFitsMind_18 : decode cX1_rowFitsMind 18 = .ok (.iload_n 1, 1) := by decide +kernel
theorem dX1_rowFitsMind_19 : decode cX1_rowFitsMind 19 = .ok (.aload_n 0, 1) := by decide +kernel
theorem dX1_rowFitsMind_20 : decode cX1_rowFitsMind 20 = .ok (.getfield 37, 3) := by decide +kernel
theorem dX1_rowFitsMind_23 : decode cX1_rowFitsMind 23 = .ok (.if_icmp .ge 31, 3) := by decide +kernel
theorem dX1_rowFitsMind_26 : decode cX1_rowFitsMind 26 = .ok (.aload_n 0, 1) := by decide +kernel
theorem dX1_rowFitsMind_27 : decode cX1_rowFitsMind 27 = .ok (.getfield 16, 3) := by decide +kernel
theorem dX1_rowFitsMind_30 : decode cX1_rowFitsMind 30 = .ok (.iload_n 1, 1) := by decide +kernel
theorem dX1_rowFitsMind_31 : decode cX1_rowFitsMind 31 = .ok (.invokevirtual 109, 3) := by decide +kernel
theorem dX1_rowFitsMind_34 : decode cX1_rowFitsMind 34 = .ok (.invokestatic 135, 3) := by decide +kernel
theorem dX1_rowFitsMind_37 : decode cX1_rowFitsMind 37 = .ok (.aload_n 0, 1) := by decide +kernel
theorem dX1_rowFitsMind_38 : decode cX1_rowFitsMind 38 = .ok (.getfield 34, 3) := by decide +kernel
theorem dX1_rowFitsMind_41 : decode cX1_rowFitsMind 41 = .ok (.iload_n 1, 1) := by decide +kernel
theorem dX1_rowFitsMind_42 : decode cX1_rowFitsMind 42 = .ok (.iaload, 1) := by decide +kernel
theorem dX1_rowFitsMind_43 : decode cX1_rowFitsMind 43 = .ok (.if_icmp .eq 5, 3) := by decide +kernel
theorem dX1_rowFitsMind_46 : decode cX1_rowFitsMind 46 = .ok (.iconst 0, 1) := by decide +kernel
theorem dX1_rowFitsMind_47 : decode cX1_rowFitsMind 47 = .ok (.ireturn, 1) := by decide +kernel
theorem dX1_rowFitsMind_48 : decode cX1_rowFitsMind 48 = .ok (.iinc 1 1, 3) := by decide +kernel
theorem dX1_rowFitsMind_51 : decode cX1_rowFitsMind 51 = .ok (.goto (-33), 3) := by decide +kernel
theorem dX1_rowFitsMind_54 : decode cX1_rowFitsMind 54 = .ok (.iconst 1, 1) := by decide +kernel
theorem dX1_rowFitsMind_55 : decode cX1_rowFitsMind 55 = .ok (.ireturn, 1) := by decide +kernel
theorem dX1_power_0 : decode cX1_power 0 = .ok (.lconst 1, 1) := by decide +kernel
theorem dX1_power_1 : decode cX1_power 1 = .ok (.lstore_n 2, 1) := by decide +kernel
theorem dX1_power_2 : decode cX1_power 2 = .ok (.iconst 0, 1) := by decide +kernel
theorem dX1_power_3 : decode cX1_power 3 = .ok (.istore 4, 2) := by decide +kernel
theorem dX1_power_5 : decode cX1_power 5 = .ok (.iload 4, 2) := by decide +kernel
theorem dX1_power_7 : decode cX1_power 7 = .ok (.iload_n 1, 1) := by decide +kernel
theorem dX1_power_8 : decode cX1_power 8 = .ok (.if_icmp .ge 14, 3) := by decide +kernel
theorem dX1_power_11 : decode cX1_power 11 = .ok (.lload_n 2, 1) := by decide +kernel
theorem dX1_power_12 : decode cX1_power 12 = .ok (.iload_n 0, 1) := by decide +kernel
theorem dX1_power_13 : decode cX1_power 13 = .ok (.i2l, 1) := by decide +kernel
theorem dX1_power_14 : decode cX1_power 14 = .ok (.lmul, 1) := by decide +kernel
theorem dX1_power_15 : decode cX1_power 15 = .ok (.lstore_n 2, 1) := by decide +kernel
theorem dX1_power_16 : decode cX1_power 16 = .ok (.iinc 4 1, 3) := by decide +kernel
theorem dX1_power_19 : decode cX1_power 19 = .ok (.goto (-14), 3) := by decide +kernel
theorem dX1_power_22 : decode cX1_power 22 = .ok (.lload_n 2, 1) := by decide +kernel
theorem dX1_power_23 : decode cX1_power 23 = .ok (.lreturn, 1) := by decide +kernel
theorem dX1_partOf_0 : decode cX1_partOf 0 = .ok (.lload_n 0, 1) := by decide +kernel
theorem dX1_partOf_1 : decode cX1_partOf 1 = .ok (.lload_n 2, 1) := by decide +kernel
theorem dX1_partOf_2 : decode cX1_partOf 2 = .ok (.invokestatic 313, 3) := by decide +kernel
theorem dX1_partOf_5 : decode cX1_partOf 5 = .ok (.lstore 5, 2) := by decide +kernel
theorem dX1_partOf_7 : decode cX1_partOf 7 = .ok (.lload 5, 2) := by decide +kernel
theorem dX1_partOf_9 : decode cX1_partOf 9 = .ok (.lconst 0, 1) := by decide +kernel
theorem dX1_partOf_10 : decode cX1_partOf 10 = .ok (.lcmp, 1) := by decide +kernel
theorem dX1_partOf_11 : decode cX1_partOf 11 = .ok (.ifCond .ne 7, 3) := by decide +kernel
theorem dX1_partOf_14 : decode cX1_partOf 14 = .ok (.iload 4, 2) := by decide +kernel
theorem dX1_partOf_16 : decode cX1_partOf 16 = .ok (.i2l, 1) := by decide +kernel
theorem dX1_partOf_17 : decode cX1_partOf 17 = .ok (.lreturn, 1) := by decide +kernel
theorem dX1_partOf_18 : decode cX1_partOf 18 = .ok (.iload 4, 2) := by decide +kernel
theorem dX1_partOf_20 : decode cX1_partOf 20 = .ok (.ifCond .ne 7, 3) := by decide +kernel
theorem dX1_partOf_23 : decode cX1_partOf 23 = .ok (.lload_n 0, 1) := by decide +kernel
theorem dX1_partOf_24 : decode cX1_partOf 24 = .ok (.goto 4, 3) := by decide +kernel
theorem dX1_partOf_27 : decode cX1_partOf 27 = .ok (.lload_n 2, 1) := by decide +kernel
theorem dX1_partOf_28 : decode cX1_partOf 28 = .ok (.lload 5, 2) := by decide +kernel
theorem dX1_partOf_30 : decode cX1_partOf 30 = .ok (.ldiv, 1) := by decide +kernel
theorem dX1_partOf_31 : decode cX1_partOf 31 = .ok (.lreturn, 1) := by decide +kernel
theorem dX1_commonDivisor_0 : decode cX1_commonDivisor 0 = .ok (.lload_n 0, 1) := by decide +kernel
theorem dX1_commonDivisor_1 : decode cX1_commonDivisor 1 = .ok (.lstore 4, 2) := by decide +kernel
theorem dX1_commonDivisor_3 : decode cX1_commonDivisor 3 = .ok (.lload_n 2, 1) := by decide +kernel
theorem dX1_commonDivisor_4 : decode cX1_commonDivisor 4 = .ok (.lstore 6, 2) := by decide +kernel
theorem dX1_commonDivisor_6 : decode cX1_commonDivisor 6 = .ok (.iconst 0, 1) := by decide +kernel
theorem dX1_commonDivisor_7 : decode cX1_commonDivisor 7 = .ok (.istore 8, 2) := by decide +kernel
theorem dX1_commonDivisor_9 : decode cX1_commonDivisor 9 = .ok (.iload 8, 2) := by decide +kernel
theorem dX1_commonDivisor_11 : decode cX1_commonDivisor 11 = .ok (.sipush 1000, 3) := by decide +kernel
theorem dX1_commonDivisor_14 : decode cX1_commonDivisor 14 = .ok (.if_icmp .ge 31, 3) := by decide +kernel
theorem dX1_commonDivisor_17 : decode cX1_commonDivisor 17 = .ok (.lload 6, 2) := by decide +kernel
theorem dX1_commonDivisor_19 : decode cX1_commonDivisor 19 = .ok (.lconst 0, 1) := by decide +kernel
theorem dX1_commonDivisor_20 : decode cX1_commonDivisor 20 = .ok (.lcmp, 1) := by decide +kernel
theorem dX1_commonDivisor_21 : decode cX1_commonDivisor 21 = .ok (.ifCond .eq 24, 3) := by decide +kernel
theorem dX1_commonDivisor_24 : decode cX1_commonDivisor 24 = .ok (.lload 4, 2) := by decide +kernel
theorem dX1_commonDivisor_26 : decode cX1_commonDivisor 26 = .ok (.lload 6, 2) := by decide +kernel
theorem dX1_commonDivisor_28 : decode cX1_commonDivisor 28 = .ok (.lrem, 1) := by decide +kernel
theorem dX1_commonDivisor_29 : decode cX1_commonDivisor 29 = .ok (.lstore 9, 2) := by decide +kernel
theorem dX1_commonDivisor_31 : decode cX1_commonDivisor 31 = .ok (.lload 6, 2) := by decide +kernel
theorem dX1_commonDivisor_33 : decode cX1_commonDivisor 33 = .ok (.lstore 4, 2) := by decide +kernel
theorem dX1_commonDivisor_35 : decode cX1_commonDivisor 35 = .ok (.lload 9, 2) := by decide +kernel
theorem dX1_commonDivisor_37 : decode cX1_commonDivisor 37 = .ok (.lstore 6, 2) := by decide +kernel
theorem dX1_commonDivisor_39 : decode cX1_commonDivisor 39 = .ok (.iinc 8 1, 3) := by decide +kernel
theorem dX1_commonDivisor_42 : decode cX1_commonDivisor 42 = .ok (.goto (-33), 3) := by decide +kernel
theorem dX1_commonDivisor_45 : decode cX1_commonDivisor 45 = .ok (.lload 4, 2) := by decide +kernel
theorem dX1_commonDivisor_47 : decode cX1_commonDivisor 47 = .ok (.lreturn, 1) := by decide +kernel
theorem dX2_init_0 : decode cX2_init 0 = .ok (.aload_n 0, 1) := by decide +kernel
theorem dX2_init_1 : decode cX2_init 1 = .ok (.invokespecial 1, 3) := by decide +kernel
theorem dX2_init_4 : decode cX2_init 4 = .ok (.aload_n 0, 1) := by decide +kernel
theorem dX2_init_5 : decode cX2_init 5 = .ok (.bipush 81, 2) := by decide +kernel
theorem dX2_init_7 : decode cX2_init 7 = .ok (.newarray .int, 2) := by decide +kernel
theorem dX2_init_9 : decode cX2_init 9 = .ok (.putfield 9, 3) := by decide +kernel
theorem dX2_init_12 : decode cX2_init 12 = .ok (.aload_n 0, 1) := by decide +kernel
theorem dX2_init_13 : decode cX2_init 13 = .ok (.bipush 81, 2) := by decide +kernel
theorem dX2_init_15 : decode cX2_init 15 = .ok (.newarray .int, 2) := by decide +kernel
theorem dX2_init_17 : decode cX2_init 17 = .ok (.putfield 13, 3) := by decide +kernel
theorem dX2_init_20 : decode cX2_init 20 = .ok (.aload_n 0, 1) := by decide +kernel
theorem dX2_init_21 : decode cX2_init 21 = .ok (.bipush 81, 2) := by decide +kernel
theorem dX2_init_23 : decode cX2_init 23 = .ok (.newarray .int, 2) := by decide +kernel
theorem dX2_init_25 : decode cX2_init 25 = .ok (.putfield 16, 3) := by decide +kernel
theorem dX2_init_28 : decode cX2_init 28 = .ok (.aload_n 0, 1) := by decide +kernel
theorem dX2_init_29 : decode cX2_init 29 = .ok (.bipush 81, 2) := by decide +kernel
theorem dX2_init_31 : decode cX2_init 31 = .ok (.newarray .int, 2) := by decide +kernel
theorem dX2_init_33 : decode cX2_init 33 = .ok (.putfield 19, 3) := by decide +kernel
theorem dX2_init_36 : decode cX2_init 36 = .ok (.aload_n 0, 1) := by decide +kernel
theorem dX2_init_37 : decode cX2_init 37 = .ok (.bipush 96, 2) := by decide +kernel
theorem dX2_init_39 : decode cX2_init 39 = .ok (.newarray .int, 2) := by decide +kernel
theorem dX2_init_41 : decode cX2_init 41 = .ok (.putfield 22, 3) := by decide +kernel
theorem dX2_init_44 : decode cX2_init 44 = .ok (.aload_n 0, 1) := by decide +kernel
theorem dX2_init_45 : decode cX2_init 45 = .ok (.bipush 16, 2) := by decide +kernel
theorem dX2_init_47 : decode cX2_init 47 = .ok (.newarray .int, 2) := by decide +kernel
theorem dX2_init_49 : decode cX2_init 49 = .ok (.putfield 25, 3) := by decide +kernel
theorem dX2_init_52 : decode cX2_init 52 = .ok (.aload_n 0, 1) := by decide +kernel
theorem dX2_init_53 : decode cX2_init 53 = .ok (.bipush 7, 2) := by decide +kernel
theorem dX2_init_55 : decode cX2_init 55 = .ok (.newarray .int, 2) := by decide +kernel
theorem dX2_init_57 : decode cX2_init 57 = .ok (.putfield 28, 3) := by decide +kernel
theorem dX2_init_60 : decode cX2_init 60 = .ok (.aload_n 0, 1) := by decide +kernel
theorem dX2_init_61 : decode cX2_init 61 = .ok (.iconst 3, 1) := by decide +kernel
theorem dX2_init_62 : decode cX2_init 62 = .ok (.newarray .int, 2) := by decide +kernel
theorem dX2_init_64 : decode cX2_init 64 = .ok (.putfield 31, 3) := by decide +kernel
theorem dX2_init_67 : decode cX2_init 67 = .ok (.aload_n 0, 1) := by decide +kernel
theorem dX2_init_68 : decode cX2_init 68 = .ok (.getfield 9, 3) := by decide +kernel
theorem dX2_init_71 : decode cX2_init 71 = .ok (.iconst 3, 1) := by decide +kernel
theorem dX2_init_72 : decode cX2_init 72 = .ok (.bipush 100, 2) := by decide +kernel
theorem dX2_init_74 : decode cX2_init 74 = .ok (.iastore, 1) := by decide +kernel
theorem dX2_init_75 : decode cX2_init 75 = .ok (.aload_n 0, 1) := by decide +kernel
theorem dX2_init_76 : decode cX2_init 76 = .ok (.getfield 9, 3) := by decide +kernel
theorem dX2_init_79 : decode cX2_init 79 = .ok (.iconst 4, 1) := by decide +kernel
theorem dX2_init_80 : decode cX2_init 80 = .ok (.iconst 5, 1) := by decide +kernel
theorem dX2_init_81 : decode cX2_init 81 = .ok (.iastore, 1) := by decide +kernel
theorem dX2_init_82 : decode cX2_init 82 = .ok (.return_, 1) := by decide +kernel
theorem dX2_isIn_0 : decode cX2_isIn 0 = .ok (.iload_n 0, 1) := by decide +kernel
theorem dX2_isIn_1 : decode cX2_isIn 1 = .ok (.iload_n 1, 1) := by decide +kernel
theorem dX2_isIn_2 : decode cX2_isIn 2 = .ok (.if_icmp .lt 12, 3) := by decide +kernel
theorem dX2_isIn_5 : decode cX2_isIn 5 = .ok (.iload_n 0, 1) := by decide +kernel
theorem dX2_isIn_6 : decode cX2_isIn 6 = .ok (.iload_n 2, 1) := by decide +kernel
theorem dX2_isIn_7 : decode cX2_isIn 7 = .ok (.if_icmp .gt 7, 3) := by decide +kernel
theorem dX2_isIn_10 : decode cX2_isIn 10 = .ok (.iconst 1, 1) := by decide +kernel
theorem dX2_isIn_11 : decode cX2_isIn 11 = .ok (.goto 4, 3) := by decide +kernel
theorem dX2_isIn_14 : decode cX2_isIn 14 = .ok (.iconst 0, 1) := by decide +kernel
theorem dX2_isIn_15 : decode cX2_isIn 15 = .ok (.ireturn, 1) := by decide +kernel
theorem dX2_apart_0 : decode cX2_apart 0 = .ok (.iload_n 0, 1) := by decide +kernel
theorem dX2_apart_1 : decode cX2_apart 1 = .ok (.iload_n 1, 1) := by decide +kernel
theorem dX2_apart_2 : decode cX2_apart 2 = .ok (.if_icmp .ge 9, 3) := by decide +kernel
theorem dX2_apart_5 : decode cX2_apart 5 = .ok (.iload_n 1, 1) := by decide +kernel
theorem dX2_apart_6 : decode cX2_apart 6 = .ok (.iload_n 0, 1) := by decide +kernel
theorem dX2_apart_7 : decode cX2_apart 7 = .ok (.isub, 1) := by decide +kernel
theorem dX2_apart_8 : decode cX2_apart 8 = .ok (.goto 6, 3) := by decide +kernel
theorem dX2_apart_11 : decode cX2_apart 11 = .ok (.iload_n 0, 1) := by decide +kernel
theorem dX2_apart_12 : decode cX2_apart 12 = .ok (.iload_n 1, 1) := by decide +kernel
theorem dX2_apart_13 : decode cX2_apart 13 = .ok (.isub, 1) := by decide +kernel
theorem dX2_apart_14 : decode cX2_apart 14 = .ok (.ireturn, 1) := by decide +kernel
theorem dX2_copies_0 : decode cX2_copies 0 = .ok (.iconst 0, 1) := by decide +kernel
theorem dX2_copies_1 : decode cX2_copies 1 = .ok (.istore_n 2, 1) := by decide +kernel
theorem dX2_copies_2 : decode cX2_copies 2 = .ok (.iload_n 2, 1) := by decide +kernel
theorem dX2_copies_3 : decode cX2_copies 3 = .ok (.bipush 81, 2) := by decide +kernel
theorem dX2_copies_5 : decode cX2_copies 5 = .ok (.if_icmp .ge 15, 3) := by decide +kernel
theorem dX2_copies_8 : decode cX2_copies 8 = .ok (.aload_n 1, 1) := by decide +kernel
theorem dX2_copies_9 : decode cX2_copies 9 = .ok (.iload_n 2, 1) := by decide +kernel
theorem dX2_copies_10 : decode cX2_copies 10 = .ok (.aload_n 0, 1) := by decide +kernel
theorem dX2_copies_11 : decode cX2_copies 11 = .ok (.iload_n 2, 1) := by decide +kernel
theorem dX2_copies_12 : decode cX2_copies 12 = .ok (.iaload, 1) := by decide +kernel
theorem dX2_copies_13 : decode cX2_copies 13 = .ok (.iastore, 1) := by decide +kernel
theorem dX2_copies_14 : decode cX2_copies 14 = .ok (.iinc 2 1, 3) := by decide +kernel
theorem dX2_copies_17 : decode cX2_copies 17 = .ok (.goto (-15), 3) := by decide +kernel
theorem dX2_copies_20 : decode cX2_copies 20 = .ok (.return_, 1) := by decide +kernel
theorem dX2_no_0 : decode cX2_no 0 = .ok (.aload_n 0, 1) := by decide +kernel
theorem dX2_no_1 : decode cX2_no 1 = .ok (.getfield 28, 3) := by decide +kernel
theorem dX2_no_4 : decode cX2_no 4 = .ok (.iload_n 1, 1) := by decide +kernel
theorem dX2_no_5 : decode cX2_no 5 = .ok (.ineg, 1) := by decide +kernel
theorem dX2_no_6 : decode cX2_no 6 = .ok (.dup2, 1) := by decide +kernel
theorem dX2_no_7 : decode cX2_no 7 = .ok (.iaload, 1) := by decide +kernel
theorem dX2_no_8 : decode cX2_no 8 = .ok (.iconst 1, 1) := by decide +kernel
theorem dX2_no_9 : decode cX2_no 9 = .ok (.iadd, 1) := by decide +kernel
theorem dX2_no_10 : decode cX2_no 10 = .ok (.iastore, 1) := by decide +kernel
theorem dX2_no_11 : decode cX2_no 11 = .ok (.iload_n 1, 1) := by decide +kernel
theorem dX2_no_12 : decode cX2_no 12 = .ok (.ireturn, 1) := by decide +kernel
theorem dX2_noWide_0 : decode cX2_noWide 0 = .ok (.ldc2_w 34, 3) := by decide +kernel
theorem dX2_noWide_3 : decode cX2_noWide 3 = .ok (.aload_n 0, 1) := by decide +kernel
theorem dX2_noWide_4 : decode cX2_noWide 4 = .ok (.iload_n 1, 1) := by decide +kernel
theorem dX2_noWide_5 : decode cX2_noWide 5 = .ok (.invokevirtual 36, 3) := by decide +kernel
theorem dX2_noWide_8 : decode cX2_noWide 8 = .ok (.i2l, 1) := by decide +kernel
theorem dX2_noWide_9 : decode cX2_noWide 9 = .ok (.lsub, 1) := by decide +kernel
theorem dX2_noWide_10 : decode cX2_noWide 10 = .ok (.lreturn, 1) := by decide +kernel
theorem dX2_ofR_0 : decode cX2_ofR 0 = .ok (.iconst 5, 1) := by decide +kernel
theorem dX2_ofR_1 : decode cX2_ofR 1 = .ok (.iconst 4, 1) := by decide +kernel
theorem dX2_ofR_2 : decode cX2_ofR 2 = .ok (.iload_n 0, 1) := by decide +kernel
theorem dX2_ofR_3 : decode cX2_ofR 3 = .ok (.imul, 1) := by decide +kernel
theorem dX2_ofR_4 : decode cX2_ofR 4 = .ok (.iadd, 1) := by decide +kernel
theorem dX2_ofR_5 : decode cX2_ofR 5 = .ok (.iload_n 1, 1) := by decide +kernel
theorem dX2_ofR_6 : decode cX2_ofR 6 = .ok (.iadd, 1) := by decide +kernel
theorem dX2_ofR_7 : decode cX2_ofR 7 = .ok (.ireturn, 1) := by decide +kernel
theorem dX2_ofP_0 : decode cX2_ofP 0 = .ok (.bipush 41, 2) := by decide +kernel
theorem dX2_ofP_2 : decode cX2_ofP 2 = .ok (.bipush 8, 2) := by decide +kernel
theorem dX2_ofP_4 : decode cX2_ofP 4 = .ok (.iload_n 0, 1) := by decide +kernel
theorem dX2_ofP_5 : decode cX2_ofP 5 = .ok (.imul, 1) := by decide +kernel
theorem dX2_ofP_6 : decode cX2_ofP 6 = .ok (.iadd, 1) := by decide +kernel
theorem dX2_ofP_7 : decode cX2_ofP 7 = .ok (.iload_n 1, 1) := by decide +kernel
theorem dX2_ofP_8 : decode cX2_ofP 8 = .ok (.iadd, 1) := by decide +kernel
theorem dX2_ofP_9 : decode cX2_ofP 9 = .ok (.ireturn, 1) := by decide +kernel
theorem dX2_isRocket_0 : decode cX2_isRocket 0 = .ok (.iload_n 1, 1) := by decide +kernel
theorem dX2_isRocket_1 : decode cX2_isRocket 1 = .ok (.iconst 0, 1) := by decide +kernel
theorem dX2_isRocket_2 : decode cX2_isRocket 2 = .ok (.aload_n 0, 1) := by decide +kernel
theorem dX2_isRocket_3 : decode cX2_isRocket 3 = .ok (.getfield 9, 3) := by decide +kernel
theorem dX2_isRocket_6 : decode cX2_isRocket 6 = .ok (.iconst 0, 1) := by decide +kernel
theorem dX2_isRocket_7 : decode cX2_isRocket 7 = .ok (.iaload, 1) := by decide +kernel
theorem dX2_isRocket_8 : decode cX2_isRocket 8 = .ok (.iconst 1, 1) := by decide +kernel
theorem dX2_isRocket_9 : decode cX2_isRocket 9 = .ok (.isub, 1) := by decide +kernel
theorem dX2_isRocket_10 : decode cX2_isRocket 10 = .ok (.invokestatic 40, 3) := by decide +kernel
theorem dX2_isRocket_13 : decode cX2_isRocket 13 = .ok (.ireturn, 1) := by decide +kernel
theorem dX2_isReader_0 : decode cX2_isReader 0 = .ok (.iload_n 1, 1) := by decide +kernel
theorem dX2_isReader_1 : decode cX2_isReader 1 = .ok (.iconst 0, 1) := by decide +kernel
theorem dX2_isReader_2 : decode cX2_isReader 2 = .ok (.aload_n 0, 1) := by decide +kernel
theorem dX2_isReader_3 : decode cX2_isReader 3 = .ok (.getfield 9, 3) := by decide +kernel
theorem dX2_isReader_6 : decode cX2_isReader 6 = .ok (.iconst 1, 1) := by decide +kernel
theorem dX2_isReader_7 : decode cX2_isReader 7 = .ok (.iaload, 1) := by decide +kernel
theorem dX2_isReader_8 : decode cX2_isReader 8 = .ok (.iconst 1, 1) := by decide +kernel
theorem dX2_isReader_9 : decode cX2_isReader 9 = .ok (.isub, 1) := by decide +kernel
theorem dX2_isReader_10 : decode cX2_isReader 10 = .ok (.invokestatic 40, 3) := by decide +kernel
theorem dX2_isReader_13 : decode cX2_isReader 13 = .ok (.ireturn, 1) := by decide +kernel
theorem dX2_has_0 : decode cX2_has 0 = .ok (.iload_n 0, 1) := by decide +kernel
theorem dX2_has_1 : decode cX2_has 1 = .ok (.iload_n 1, 1) := by decide +kernel
theorem dX2_has_2 : decode cX2_has 2 = .ok (.ishr, 1) := by decide +kernel
theorem dX2_has_3 : decode cX2_has 3 = .ok (.iconst 1, 1) := by decide +kernel
theorem dX2_has_4 : decode cX2_has 4 = .ok (.iand, 1) := by decide +kernel
theorem dX2_has_5 : decode cX2_has 5 = .ok (.iconst 1, 1) := by decide +kernel
theorem dX2_has_6 : decode cX2_has 6 = .ok (.if_icmp .ne 7, 3) := by decide +kernel
theorem dX2_has_9 : decode cX2_has 9 = .ok (.iconst 1, 1) := by decide +kernel
theorem dX2_has_10 : decode cX2_has 10 = .ok (.goto 4, 3) := by decide +kernel
theorem dX2_has_13 : decode cX2_has 13 = .ok (.iconst 0, 1) := by decide +kernel
theorem dX2_has_14 : decode cX2_has 14 = .ok (.ireturn, 1) := by decide +kernel
theorem dX2_bits_0 : decode cX2_bits 0 = .ok (.iconst 0, 1) := by decide +kernel
theorem dX2_bits_1 : decode cX2_bits 1 = .ok (.istore_n 1, 1) := by decide +kernel
theorem dX2_bits_2 : decode cX2_bits 2 = .ok (.iconst 0, 1) := by decide +kernel
theorem dX2_bits_3 : decode cX2_bits 3 = .ok (.istore_n 2, 1) := by decide +kernel
theorem dX2_bits_4 : decode cX2_bits 4 = .ok (.iload_n 2, 1) := by decide +kernel
theorem dX2_bits_5 : decode cX2_bits 5 = .ok (.bipush 9, 2) := by decide +kernel
theorem dX2_bits_7 : decode cX2_bits 7 = .ok (.if_icmp .ge 17, 3) := by decide +kernel
theorem dX2_bits_10 : decode cX2_bits 10 = .ok (.iload_n 1, 1) := by decide +kernel
theorem dX2_bits_11 : decode cX2_bits 11 = .ok (.iload_n 0, 1) := by decide +kernel
theorem dX2_bits_12 : decode cX2_bits 12 = .ok (.iload_n 2, 1) := by decide +kernel
theorem dX2_bits_13 : decode cX2_bits 13 = .ok (.ishr, 1) := by decide +kernel
theorem dX2_bits_14 : decode cX2_bits 14 = .ok (.iconst 1, 1) := by decide +kernel
theorem dX2_bits_15 : decode cX2_bits 15 = .ok (.iand, 1) := by decide +kernel
theorem dX2_bits_16 : decode cX2_bits 16 = .ok (.iadd, 1) := by decide +kernel
theorem dX2_bits_17 : decode cX2_bits 17 = .ok (.istore_n 1, 1) := by decide +kernel
theorem dX2_bits_18 : decode cX2_bits 18 = .ok (.iinc 2 1, 3) := by decide +kernel
theorem dX2_bits_21 : decode cX2_bits 21 = .ok (.goto (-17), 3) := by decide +kernel
theorem dX2_bits_24 : decode cX2_bits 24 = .ok (.iload_n 1, 1) := by decide +kernel
theorem dX2_bits_25 : decode cX2_bits 25 = .ok (.ireturn, 1) := by decide +kernel
theorem dX2_costBy_0 : decode cX2_costBy 0 = .ok (.iload_n 0, 1) := by decide +kernel
theorem dX2_costBy_1 : decode cX2_costBy 1 = .ok (.tableswitch 48 1 5 #[35, 37, 40, 43, 45], 35) := by decide +kernel
theorem dX2_costBy_36 : decode cX2_costBy 36 = .ok (.iconst 1, 1) := by decide +kernel
theorem dX2_costBy_37 : decode cX2_costBy 37 = .ok (.ireturn, 1) := by decide +kernel
theorem dX2_costBy_38 : decode cX2_costBy 38 = .ok (.bipush 10, 2) := by decide +kernel
theorem dX2_costBy_40 : decode cX2_costBy 40 = .ok (.ireturn, 1) := by decide +kernel
theorem dX2_costBy_41 : decode cX2_costBy 41 = .ok (.bipush 11, 2) := by decide +kernel
theorem dX2_costBy_43 : decode cX2_costBy 43 = .ok (.ireturn, 1) := by decide +kernel
theorem dX2_costBy_44 : decode cX2_costBy 44 = .ok (.iconst 3, 1) := by decide +kernel
theorem dX2_costBy_45 : decode cX2_costBy 45 = .ok (.ireturn, 1) := by decide +kernel
theorem dX2_costBy_46 : decode cX2_costBy 46 = .ok (.bipush 21, 2) := by decide +kernel
theorem dX2_costBy_48 : decode cX2_costBy 48 = .ok (.ireturn, 1) := by decide +kernel
theorem dX2_costBy_49 : decode cX2_costBy 49 = .ok (.iconst 5, 1) := by decide +kernel
theorem dX2_costBy_50 : decode cX2_costBy 50 = .ok (.ireturn, 1) := by decide +kernel
theorem dX2_reachBy_0 : decode cX2_reachBy 0 = .ok (.iload_n 1, 1) := by decide +kernel
theorem dX2_reachBy_1 : decode cX2_reachBy 1 = .ok (.iconst 2, 1) := by decide +kernel
theorem dX2_reachBy_2 : decode cX2_reachBy 2 = .ok (.idiv, 1) := by decide +kernel
theorem dX2_reachBy_3 : decode cX2_reachBy 3 = .ok (.iconst 2, 1) := by decide +kernel
theorem dX2_reachBy_4 : decode cX2_reachBy 4 = .ok (.iadd, 1) := by decide +kernel
theorem dX2_reachBy_5 : decode cX2_reachBy 5 = .ok (.istore_n 2, 1) := by decide +kernel
theorem dX2_reachBy_6 : decode cX2_reachBy 6 = .ok (.iload_n 0, 1) := by decide +kernel
theorem dX2_reachBy_7 : decode cX2_reachBy 7 = .ok (.tableswitch 47 1 5 #[33, 37, 37, 33, 41], 33) := by decide +kernel
theorem dX2_reachBy_40 : decode cX2_reachBy 40 = .ok (.iload_n 2, 1) := by decide +kernel
theorem dX2_reachBy_41 : decode cX2_reachBy 41 = .ok (.iconst 2, 1) := by decide +kernel
theorem dX2_reachBy_42 : decode cX2_reachBy 42 = .ok (.idiv, 1) := by decide +kernel
theorem dX2_reachBy_43 : decode cX2_reachBy 43 = .ok (.ireturn, 1) := by decide +kernel
theorem dX2_reachBy_44 : decode cX2_reachBy 44 = .ok (.iload_n 2, 1) := by decide +kernel
theorem dX2_reachBy_45 : decode cX2_reachBy 45 = .ok (.iconst 3, 1) := by decide +kernel
theorem dX2_reachBy_46 : decode cX2_reachBy 46 = .ok (.iadd, 1) := by decide +kernel
theorem dX2_reachBy_47 : decode cX2_reachBy 47 = .ok (.ireturn, 1) := by decide +kernel
theorem dX2_reachBy_48 : decode cX2_reachBy 48 = .ok (.iconst 2, 1) := by decide +kernel
theorem dX2_reachBy_49 : decode cX2_reachBy 49 = .ok (.iload_n 2, 1) := by decide +kernel
theorem dX2_reachBy_50 : decode cX2_reachBy 50 = .ok (.iconst 3, 1) := by decide +kernel
theorem dX2_reachBy_51 : decode cX2_reachBy 51 = .ok (.iadd, 1) := by decide +kernel
theorem dX2_reachBy_52 : decode cX2_reachBy 52 = .ok (.imul, 1) := by decide +kernel
theorem dX2_reachBy_53 : decode cX2_reachBy 53 = .ok (.ireturn, 1) := by decide +kernel
theorem dX2_reachBy_54 : decode cX2_reachBy 54 = .ok (.iload_n 2, 1) := by decide +kernel
theorem dX2_reachBy_55 : decode cX2_reachBy 55 = .ok (.ireturn, 1) := by decide +kernel
theorem dX2_darkBy_0 : decode cX2_darkBy 0 = .ok (.iload_n 0, 1) := by decide +kernel
theorem dX2_darkBy_1 : decode cX2_darkBy 1 = .ok (.tableswitch 46 1 5 #[35, 40, 40, 37, 40], 35) := by decide +kernel
theorem dX2_darkBy_36 : decode cX2_darkBy 36 = .ok (.iconst 0, 1) := by decide +kernel
theorem dX2_darkBy_37 : decode cX2_darkBy 37 = .ok (.ireturn, 1) := by decide +kernel
theorem dX2_darkBy_38 : decode cX2_darkBy 38 = .ok (.bipush 9, 2) := by decide +kernel
theorem dX2_darkBy_40 : decode cX2_darkBy 40 = .ok (.ireturn, 1) := by decide +kernel
theorem dX2_darkBy_41 : decode cX2_darkBy 41 = .ok (.iconst 2, 1) := by decide +kernel
theorem dX2_darkBy_42 : decode cX2_darkBy 42 = .ok (.iload_n 1, 1) := by decide +kernel
theorem dX2_darkBy_43 : decode cX2_darkBy 43 = .ok (.iconst 1, 1) := by decide +kernel
theorem dX2_darkBy_44 : decode cX2_darkBy 44 = .ok (.iadd, 1) := by decide +kernel
theorem dX2_darkBy_45 : decode cX2_darkBy 45 = .ok (.imul, 1) := by decide +kernel
theorem dX2_darkBy_46 : decode cX2_darkBy 46 = .ok (.ireturn, 1) := by decide +kernel
theorem dX2_darkBy_47 : decode cX2_darkBy 47 = .ok (.iload_n 1, 1) := by decide +kernel
theorem dX2_darkBy_48 : decode cX2_darkBy 48 = .ok (.iconst 1, 1) := by decide +kernel
theorem dX2_darkBy_49 : decode cX2_darkBy 49 = .ok (.iadd, 1) := by decide +kernel
theorem dX2_darkBy_50 : decode cX2_darkBy 50 = .ok (.ireturn, 1) := by decide +kernel
theorem dX2_burstsAt_0 : decode cX2_burstsAt 0 = .ok (.aload_n 0, 1) := by decide +kernel
theorem dX2_burstsAt_1 : decode cX2_burstsAt 1 = .ok (.iload_n 1, 1) := by decide +kernel
theorem dX2_burstsAt_2 : decode cX2_burstsAt 2 = .ok (.iconst 0, 1) := by decide +kernel
theorem dX2_burstsAt_3 : decode cX2_burstsAt 3 = .ok (.invokestatic 44, 3) := by decide +kernel
theorem dX2_burstsAt_6 : decode cX2_burstsAt 6 = .ok (.iaload, 1) := by decide +kernel
theorem dX2_burstsAt_7 : decode cX2_burstsAt 7 = .ok (.istore_n 2, 1) := by decide +kernel
theorem dX2_burstsAt_8 : decode cX2_burstsAt 8 = .ok (.bipush 10, 2) := by decide +kernel
theorem dX2_burstsAt_10 : decode cX2_burstsAt 10 = .ok (.aload_n 0, 1) := by decide +kernel
theorem dX2_burstsAt_11 : decode cX2_burstsAt 11 = .ok (.iconst 4, 1) := by decide +kernel
theorem dX2_burstsAt_12 : decode cX2_burstsAt 12 = .ok (.iaload, 1) := by decide +kernel
theorem dX2_burstsAt_13 : decode cX2_burstsAt 13 = .ok (.iconst 5, 1) := by decide +kernel
theorem dX2_burstsAt_14 : decode cX2_burstsAt 14 = .ok (.isub, 1) := by decide +kernel
theorem dX2_burstsAt_15 : decode cX2_burstsAt 15 = .ok (.iload_n 2, 1) := by decide +kernel
theorem dX2_burstsAt_16 : decode cX2_burstsAt 16 = .ok (.iconst 3, 1) := by decide +kernel
theorem dX2_burstsAt_17 : decode cX2_burstsAt 17 = .ok (.if_icmp .eq 8, 3) := by decide +kernel
theorem dX2_burstsAt_20 : decode cX2_burstsAt 20 = .ok (.iload_n 2, 1) := by decide +kernel
theorem dX2_burstsAt_21 : decode cX2_burstsAt 21 = .ok (.iconst 5, 1) := by decide +kernel
theorem dX2_burstsAt_22 : decode cX2_burstsAt 22 = .ok (.if_icmp .ne 7, 3) := by decide +kernel
theorem dX2_burstsAt_25 : decode cX2_burstsAt 25 = .ok (.iconst 3, 1) := by decide +kernel
theorem dX2_burstsAt_26 : decode cX2_burstsAt 26 = .ok (.goto 4, 3) := by decide +kernel
theorem dX2_burstsAt_29 : decode cX2_burstsAt 29 = .ok (.iconst 1, 1) := by decide +kernel
theorem dX2_burstsAt_30 : decode cX2_burstsAt 30 = .ok (.imul, 1) := by decide +kernel
theorem dX2_burstsAt_31 : decode cX2_burstsAt 31 = .ok (.iadd, 1) := by decide +kernel
theorem dX2_burstsAt_32 : decode cX2_burstsAt 32 = .ok (.istore_n 3, 1) := by decide +kernel
theorem dX2_burstsAt_33 : decode cX2_burstsAt 33 = .ok (.iload_n 3, 1) := by decide +kernel
theorem dX2_burstsAt_34 : decode cX2_burstsAt 34 = .ok (.ifCond .ge 7, 3) := by decide +kernel
theorem dX2_burstsAt_37 : decode cX2_burstsAt 37 = .ok (.iconst 0, 1) := by decide +kernel
theorem dX2_burstsAt_38 : decode cX2_burstsAt 38 = .ok (.goto 15, 3) := by decide +kernel
theorem dX2_burstsAt_41 : decode cX2_burstsAt 41 = .ok (.iload_n 3, 1) := by decide +kernel
theorem dX2_burstsAt_42 : decode cX2_burstsAt 42 = .ok (.bipush 20, 2) := by decide +kernel
theorem dX2_burstsAt_44 : decode cX2_burstsAt 44 = .ok (.if_icmp .lt 8, 3) := by decide +kernel
theorem dX2_burstsAt_47 : decode cX2_burstsAt 47 = .ok (.bipush 19, 2) := by decide +kernel
theorem dX2_burstsAt_49 : decode cX2_burstsAt 49 = .ok (.goto 4, 3) := by decide +kernel
theorem dX2_burstsAt_52 : decode cX2_burstsAt 52 = .ok (.iload_n 3, 1) := by decide +kernel
theorem dX2_burstsAt_53 : decode cX2_burstsAt 53 = .ok (.ireturn, 1) := by decide +kernel
theorem dX2_isRead_0 : decode cX2_isRead 0 = .ok (.aload_n 0, 1) := by decide +kernel
theorem dX2_isRead_1 : decode cX2_isRead 1 = .ok (.iload_n 2, 1) := by decide +kernel
theorem dX2_isRead_2 : decode cX2_isRead 2 = .ok (.iconst 0, 1) := by decide +kernel
theorem dX2_isRead_3 : decode cX2_isRead 3 = .ok (.invokestatic 48, 3) := by decide +kernel
theorem dX2_isRead_6 : decode cX2_isRead 6 = .ok (.iaload, 1) := by decide +kernel
theorem dX2_isRead_7 : decode cX2_isRead 7 = .ok (.aload_n 0, 1) := by decide +kernel
theorem dX2_isRead_8 : decode cX2_isRead 8 = .ok (.iload_n 1, 1) := by decide +kernel
theorem dX2_isRead_9 : decode cX2_isRead 9 = .ok (.invokestatic 51, 3) := by decide +kernel
theorem dX2_isRead_12 : decode cX2_isRead 12 = .ok (.invokestatic 55, 3) := by decide +kernel
theorem dX2_isRead_15 : decode cX2_isRead 15 = .ok (.aload_n 0, 1) := by decide +kernel
theorem dX2_isRead_16 : decode cX2_isRead 16 = .ok (.iload_n 1, 1) := by decide +kernel
theorem dX2_isRead_17 : decode cX2_isRead 17 = .ok (.iconst 0, 1) := by decide +kernel
theorem dX2_isRead_18 : decode cX2_isRead 18 = .ok (.invokestatic 44, 3) := by decide +kernel
theorem dX2_isRead_21 : decode cX2_isRead 21 = .ok (.iaload, 1) := by decide +kernel
theorem dX2_isRead_22 : decode cX2_isRead 22 = .ok (.aload_n 0, 1) := by decide +kernel
theorem dX2_isRead_23 : decode cX2_isRead 23 = .ok (.iload_n 1, 1) := by decide +kernel
theorem dX2_isRead_24 : decode cX2_isRead 24 = .ok (.iconst 1, 1) := by decide +kernel
theorem dX2_isRead_25 : decode cX2_isRead 25 = .ok (.invokestatic 44, 3) := by decide +kernel
theorem dX2_isRead_28 : decode cX2_isRead 28 = .ok (.iaload, 1) := by decide +kernel
theorem dX2_isRead_29 : decode cX2_isRead 29 = .ok (.invokestatic 58, 3) := by decide +kernel
theorem dX2_isRead_32 : decode cX2_isRead 32 = .ok (.if_icmp .gt 7, 3) := by decide +kernel
theorem dX2_isRead_35 : decode cX2_isRead 35 = .ok (.iconst 1, 1) := by decide +kernel
theorem dX2_isRead_36 : decode cX2_isRead 36 = .ok (.goto 4, 3) := by decide +kernel
theorem dX2_isRead_39 : decode cX2_isRead 39 = .ok (.iconst 0, 1) := by decide +kernel
theorem dX2_isRead_40 : decode cX2_isRead 40 = .ok (.ireturn, 1) := by decide +kernel
theorem dX2_readers_0 : decode cX2_readers 0 = .ok (.iconst 0, 1) := by decide +kernel
theorem dX2_readers_1 : decode cX2_readers 1 = .ok (.istore_n 2, 1) := by decide +kernel
theorem dX2_readers_2 : decode cX2_readers 2 = .ok (.iconst 0, 1) := by decide +kernel
theorem dX2_readers_3 : decode cX2_readers 3 = .ok (.istore_n 3, 1) := by decide +kernel
theorem dX2_readers_4 : decode cX2_readers 4 = .ok (.iload_n 3, 1) := by decide +kernel
theorem dX2_readers_5 : decode cX2_readers 5 = .ok (.aload_n 0, 1) := by decide +kernel
theorem dX2_readers_6 : decode cX2_readers 6 = .ok (.iconst 1, 1) := by decide +kernel
theorem dX2_readers_7 : decode cX2_readers 7 = .ok (.iaload, 1) := by decide +kernel
theorem dX2_readers_8 : decode cX2_readers 8 = .ok (.if_icmp .ge 28, 3) := by decide +kernel
theorem dX2_readers_11 : decode cX2_readers 11 = .ok (.iload_n 2, 1) := by decide +kernel
theorem dX2_readers_12 : decode cX2_readers 12 = .ok (.aload_n 0, 1) := by decide +kernel
theorem dX2_readers_13 : decode cX2_readers 13 = .ok (.iload_n 1, 1) := by decide +kernel
theorem dX2_readers_14 : decode cX2_readers 14 = .ok (.iload_n 3, 1) := by decide +kernel
theorem dX2_readers_15 : decode cX2_readers 15 = .ok (.invokestatic 61, 3) := by decide +kernel
theorem dX2_readers_18 : decode cX2_readers 18 = .ok (.ifCond .eq 9, 3) := by decide +kernel
theorem dX2_readers_21 : decode cX2_readers 21 = .ok (.iconst 1, 1) := by decide +kernel
theorem dX2_readers_22 : decode cX2_readers 22 = .ok (.iload_n 3, 1) := by decide +kernel
theorem dX2_readers_23 : decode cX2_readers 23 = .ok (.ishl, 1) := by decide +kernel
theorem dX2_readers_24 : decode cX2_readers 24 = .ok (.goto 4, 3) := by decide +kernel
theorem dX2_readers_27 : decode cX2_readers 27 = .ok (.iconst 0, 1) := by decide +kernel
theorem dX2_readers_28 : decode cX2_readers 28 = .ok (.ior, 1) := by decide +kernel
theorem dX2_readers_29 : decode cX2_readers 29 = .ok (.istore_n 2, 1) := by decide +kernel
theorem dX2_readers_30 : decode cX2_readers 30 = .ok (.iinc 3 1, 3) := by decide +kernel
theorem dX2_readers_33 : decode cX2_readers 33 = .ok (.goto (-29), 3) := by decide +kernel
theorem dX2_readers_36 : decode cX2_readers 36 = .ok (.iload_n 2, 1) := by decide +kernel
theorem dX2_readers_37 : decode cX2_readers 37 = .ok (.ireturn, 1) := by decide +kernel
theorem dX2_bursts_0 : decode cX2_bursts 0 = .ok (.iconst 0, 1) := by decide +kernel
theorem dX2_bursts_1 : decode cX2_bursts 1 = .ok (.istore_n 3, 1) := by decide +kernel
theorem dX2_bursts_2 : decode cX2_bursts 2 = .ok (.iload_n 3, 1) := by decide +kernel
theorem dX2_bursts_3 : decode cX2_bursts 3 = .ok (.aload_n 0, 1) := by decide +kernel
theorem dX2_bursts_4 : decode cX2_bursts 4 = .ok (.iconst 1, 1) := by decide +kernel
theorem dX2_bursts_5 : decode cX2_bursts 5 = .ok (.iaload, 1) := by decide +kernel
theorem dX2_bursts_6 : decode cX2_bursts 6 = .ok (.if_icmp .ge 85, 3) := by decide +kernel
theorem dX2_bursts_9 : decode cX2_bursts 9 = .ok (.iload_n 2, 1) := by decide +kernel
theorem dX2_bursts_10 : decode cX2_bursts 10 = .ok (.iload_n 3, 1) := by decide +kernel
theorem dX2_bursts_11 : decode cX2_bursts 11 = .ok (.invokestatic 65, 3) := by decide +kernel
theorem dX2_bursts_14 : decode cX2_bursts 14 = .ok (.ifCond .eq 71, 3) := by decide +kernel
theorem dX2_bursts_17 : decode cX2_bursts 17 = .ok (.aload_n 0, 1) := by decide +kernel
theorem dX2_bursts_18 : decode cX2_bursts 18 = .ok (.iload_n 1, 1) := by decide +kernel
theorem dX2_bursts_19 : decode cX2_bursts 19 = .ok (.iload_n 3, 1) := by decide +kernel
theorem dX2_bursts_20 : decode cX2_bursts 20 = .ok (.invokestatic 61, 3) := by decide +kernel
theorem dX2_bursts_23 : decode cX2_bursts 23 = .ok (.ifCond .ne 6, 3) := by decide +kernel
theorem dX2_bursts_26 : decode cX2_bursts 26 = .ok (.goto 59, 3) := by decide +kernel
theorem dX2_bursts_29 : decode cX2_bursts 29 = .ok (.aload_n 0, 1) := by decide +kernel
theorem dX2_bursts_30 : decode cX2_bursts 30 = .ok (.iload_n 3, 1) := by decide +kernel
theorem dX2_bursts_31 : decode cX2_bursts 31 = .ok (.iconst 1, 1) := by decide +kernel
theorem dX2_bursts_32 : decode cX2_bursts 32 = .ok (.invokestatic 48, 3) := by decide +kernel
theorem dX2_bursts_35 : decode cX2_bursts 35 = .ok (.iaload, 1) := by decide +kernel
theorem dX2_bursts_36 : decode cX2_bursts 36 = .ok (.bipush 9, 2) := by decide +kernel
theorem dX2_bursts_38 : decode cX2_bursts 38 = .ok (.if_icmp .ne 8, 3) := by decide +kernel
theorem dX2_bursts_41 : decode cX2_bursts 41 = .ok (.bipush 99, 2) := by decide +kernel
theorem dX2_bursts_43 : decode cX2_bursts 43 = .ok (.goto 10, 3) := by decide +kernel
theorem dX2_bursts_46 : decode cX2_bursts 46 = .ok (.aload_n 0, 1) := by decide +kernel
theorem dX2_bursts_47 : decode cX2_bursts 47 = .ok (.iload_n 3, 1) := by decide +kernel
theorem dX2_bursts_48 : decode cX2_bursts 48 = .ok (.iconst 1, 1) := by decide +kernel
theorem dX2_bursts_49 : decode cX2_bursts 49 = .ok (.invokestatic 48, 3) := by decide +kernel
theorem dX2_bursts_52 : decode cX2_bursts 52 = .ok (.iaload, 1) := by decide +kernel
theorem dX2_bursts_53 : decode cX2_bursts 53 = .ok (.istore 4, 2) := by decide +kernel
theorem dX2_bursts_55 : decode cX2_bursts 55 = .ok (.iload_n 3, 1) := by decide +kernel
theorem dX2_bursts_56 : decode cX2_bursts 56 = .ok (.iconst 2, 1) := by decide +kernel
theorem dX2_bursts_57 : decode cX2_bursts 57 = .ok (.aload_n 0, 1) := by decide +kernel
theorem dX2_bursts_58 : decode cX2_bursts 58 = .ok (.iload_n 1, 1) := by decide +kernel
theorem dX2_bursts_59 : decode cX2_bursts 59 = .ok (.iconst 2, 1) := by decide +kernel
theorem dX2_bursts_60 : decode cX2_bursts 60 = .ok (.invokestatic 44, 3) := by decide +kernel
theorem dX2_bursts_63 : decode cX2_bursts 63 = .ok (.iaload, 1) := by decide +kernel
theorem dX2_bursts_64 : decode cX2_bursts 64 = .ok (.iadd, 1) := by decide +kernel
theorem dX2_bursts_65 : decode cX2_bursts 65 = .ok (.invokestatic 48, 3) := by decide +kernel
theorem dX2_bursts_68 : decode cX2_bursts 68 = .ok (.istore 5, 2) := by decide +kernel
theorem dX2_bursts_70 : decode cX2_bursts 70 = .ok (.iload 4, 2) := by decide +kernel
theorem dX2_bursts_72 : decode cX2_bursts 72 = .ok (.aload_n 0, 1) := by decide +kernel
theorem dX2_bursts_73 : decode cX2_bursts 73 = .ok (.iload 5, 2) := by decide +kernel
theorem dX2_bursts_75 : decode cX2_bursts 75 = .ok (.iaload, 1) := by decide +kernel
theorem dX2_bursts_76 : decode cX2_bursts 76 = .ok (.if_icmp .le 9, 3) := by decide +kernel
theorem dX2_bursts_79 : decode cX2_bursts 79 = .ok (.aload_n 0, 1) := by decide +kernel
theorem dX2_bursts_80 : decode cX2_bursts 80 = .ok (.iload 5, 2) := by decide +kernel
theorem dX2_bursts_82 : decode cX2_bursts 82 = .ok (.iload 4, 2) := by decide +kernel
theorem dX2_bursts_84 : decode cX2_bursts 84 = .ok (.iastore, 1) := by decide +kernel
theorem dX2_bursts_85 : decode cX2_bursts 85 = .ok (.iinc 3 1, 3) := by decide +kernel
theorem dX2_bursts_88 : decode cX2_bursts 88 = .ok (.goto (-86), 3) := by decide +kernel
theorem dX2_bursts_91 : decode cX2_bursts 91 = .ok (.return_, 1) := by decide +kernel
theorem dX2_canGo_0 : decode cX2_canGo 0 = .ok (.aload_n 0, 1) := by decide +kernel
theorem dX2_canGo_1 : decode cX2_canGo 1 = .ok (.iload_n 1, 1) := by decide +kernel
theorem dX2_canGo_2 : decode cX2_canGo 2 = .ok (.iconst 3, 1) := by decide +kernel
theorem dX2_canGo_3 : decode cX2_canGo 3 = .ok (.invokestatic 44, 3) := by decide +kernel
theorem dX2_canGo_6 : decode cX2_canGo 6 = .ok (.iaload, 1) := by decide +kernel
theorem dX2_canGo_7 : decode cX2_canGo 7 = .ok (.ifCond .ne 23, 3) := by decide +kernel
theorem dX2_canGo_10 : decode cX2_canGo 10 = .ok (.aload_n 0, 1) := by decide +kernel
theorem dX2_canGo_11 : decode cX2_canGo 11 = .ok (.iconst 3, 1) := by decide +kernel
theorem dX2_canGo_12 : decode cX2_canGo 12 = .ok (.iaload, 1) := by decide +kernel
theorem dX2_canGo_13 : decode cX2_canGo 13 = .ok (.aload_n 0, 1) := by decide +kernel
theorem dX2_canGo_14 : decode cX2_canGo 14 = .ok (.iload_n 1, 1) := by decide +kernel
theorem dX2_canGo_15 : decode cX2_canGo 15 = .ok (.iconst 0, 1) := by decide +kernel
theorem dX2_canGo_16 : decode cX2_canGo 16 = .ok (.invokestatic 44, 3) := by decide +kernel
theorem dX2_canGo_19 : decode cX2_canGo 19 = .ok (.iaload, 1) := by decide +kernel
theorem dX2_canGo_20 : decode cX2_canGo 20 = .ok (.invokestatic 69, 3) := by decide +kernel
theorem dX2_canGo_23 : decode cX2_canGo 23 = .ok (.if_icmp .lt 7, 3) := by decide +kernel
theorem dX2_canGo_26 : decode cX2_canGo 26 = .ok (.iconst 1, 1) := by decide +kernel
theorem dX2_canGo_27 : decode cX2_canGo 27 = .ok (.goto 4, 3) := by decide +kernel
theorem dX2_canGo_30 : decode cX2_canGo 30 = .ok (.iconst 0, 1) := by decide +kernel
theorem dX2_canGo_31 : decode cX2_canGo 31 = .ok (.ireturn, 1) := by decide +kernel
theorem dX2_sendsIn_0 : decode cX2_sendsIn 0 = .ok (.aload_n 0, 1) := by decide +kernel
theorem dX2_sendsIn_1 : decode cX2_sendsIn 1 = .ok (.iconst 3, 1) := by decide +kernel
theorem dX2_sendsIn_2 : decode cX2_sendsIn 2 = .ok (.dup2, 1) := by decide +kernel
theorem dX2_sendsIn_3 : decode cX2_sendsIn 3 = .ok (.iaload, 1) := by decide +kernel
theorem dX2_sendsIn_4 : decode cX2_sendsIn 4 = .ok (.aload_n 0, 1) := by decide +kernel
theorem dX2_sendsIn_5 : decode cX2_sendsIn 5 = .ok (.iload_n 1, 1) := by decide +kernel
theorem dX2_sendsIn_6 : decode cX2_sendsIn 6 = .ok (.iconst 0, 1) := by decide +kernel
theorem dX2_sendsIn_7 : decode cX2_sendsIn 7 = .ok (.invokestatic 44, 3) := by decide +kernel
theorem dX2_sendsIn_10 : decode cX2_sendsIn 10 = .ok (.iaload, 1) := by decide +kernel
theorem dX2_sendsIn_11 : decode cX2_sendsIn 11 = .ok (.invokestatic 69, 3) := by decide +kernel
theorem dX2_sendsIn_14 : decode cX2_sendsIn 14 = .ok (.isub, 1) := by decide +kernel
theorem dX2_sendsIn_15 : decode cX2_sendsIn 15 = .ok (.iastore, 1) := by decide +kernel
theorem dX2_sendsIn_16 : decode cX2_sendsIn 16 = .ok (.aload_n 0, 1) := by decide +kernel
theorem dX2_sendsIn_17 : decode cX2_sendsIn 17 = .ok (.iload_n 1, 1) := by decide +kernel
theorem dX2_sendsIn_18 : decode cX2_sendsIn 18 = .ok (.iconst 3, 1) := by decide +kernel
theorem dX2_sendsIn_19 : decode cX2_sendsIn 19 = .ok (.invokestatic 44, 3) := by decide +kernel
theorem dX2_sendsIn_22 : decode cX2_sendsIn 22 = .ok (.iconst 1, 1) := by decide +kernel
theorem dX2_sendsIn_23 : decode cX2_sendsIn 23 = .ok (.iastore, 1) := by decide +kernel
theorem dX2_sendsIn_24 : decode cX2_sendsIn 24 = .ok (.aload_n 0, 1) := by decide +kernel
theorem dX2_sendsIn_25 : decode cX2_sendsIn 25 = .ok (.iload_n 1, 1) := by decide +kernel
theorem dX2_sendsIn_26 : decode cX2_sendsIn 26 = .ok (.iload_n 2, 1) := by decide +kernel
theorem dX2_sendsIn_27 : decode cX2_sendsIn 27 = .ok (.invokestatic 72, 3) := by decide +kernel
theorem dX2_sendsIn_30 : decode cX2_sendsIn 30 = .ok (.return_, 1) := by decide +kernel
theorem dX2_nextOf_0 : decode cX2_nextOf 0 = .ok (.iconst 0, 1) := by decide +kernel
theorem dX2_nextOf_1 : decode cX2_nextOf 1 = .ok (.istore_n 1, 1) := by decide +kernel
theorem dX2_nextOf_2 : decode cX2_nextOf 2 = .ok (.iload_n 1, 1) := by decide +kernel
theorem dX2_nextOf_3 : decode cX2_nextOf 3 = .ok (.aload_n 0, 1) := by decide +kernel
theorem dX2_nextOf_4 : decode cX2_nextOf 4 = .ok (.iconst 0, 1) := by decide +kernel
theorem dX2_nextOf_5 : decode cX2_nextOf 5 = .ok (.iaload, 1) := by decide +kernel
theorem dX2_nextOf_6 : decode cX2_nextOf 6 = .ok (.if_icmp .ge 19, 3) := by decide +kernel
theorem dX2_nextOf_9 : decode cX2_nextOf 9 = .ok (.aload_n 0, 1) := by decide +kernel
theorem dX2_nextOf_10 : decode cX2_nextOf 10 = .ok (.iload_n 1, 1) := by decide +kernel
theorem dX2_nextOf_11 : decode cX2_nextOf 11 = .ok (.invokestatic 76, 3) := by decide +kernel
theorem dX2_nextOf_14 : decode cX2_nextOf 14 = .ok (.ifCond .eq 5, 3) := by decide +kernel
theorem dX2_nextOf_17 : decode cX2_nextOf 17 = .ok (.iload_n 1, 1) := by decide +kernel
theorem dX2_nextOf_18 : decode cX2_nextOf 18 = .ok (.ireturn, 1) := by decide +kernel
theorem dX2_nextOf_19 : decode cX2_nextOf 19 = .ok (.iinc 1 1, 3) := by decide +kernel
theorem dX2_nextOf_22 : decode cX2_nextOf 22 = .ok (.goto (-20), 3) := by decide +kernel
theorem dX2_nextOf_25 : decode cX2_nextOf 25 = .ok (.bipush (-9), 2) := by decide +kernel
theorem dX2_nextOf_27 : decode cX2_nextOf 27 = .ok (.ireturn, 1) := by decide +kernel
theorem dX2_night_0 : decode cX2_night 0 = .ok (.aload_n 0, 1) := by decide +kernel
theorem dX2_night_1 : decode cX2_night 1 = .ok (.iconst 2, 1) := by decide +kernel
theorem dX2_night_2 : decode cX2_night 2 = .ok (.dup2, 1) := by decide +kernel
theorem dX2_night_3 : decode cX2_night 3 = .ok (.iaload, 1) := by decide +kernel
theorem dX2_night_4 : decode cX2_night 4 = .ok (.iconst 1, 1) := by decide +kernel
theorem dX2_night_5 : decode cX2_night 5 = .ok (.iadd, 1) := by decide +kernel
theorem dX2_night_6 : decode cX2_night 6 = .ok (.iastore, 1) := by decide +kernel
theorem dX2_night_7 : decode cX2_night 7 = .ok (.iconst 0, 1) := by decide +kernel
theorem dX2_night_8 : decode cX2_night 8 = .ok (.istore_n 2, 1) := by decide +kernel
theorem dX2_night_9 : decode cX2_night 9 = .ok (.iload_n 2, 1) := by decide +kernel
theorem dX2_night_10 : decode cX2_night 10 = .ok (.aload_n 0, 1) := by decide +kernel
theorem dX2_night_11 : decode cX2_night 11 = .ok (.iconst 1, 1) := by decide +kernel
theorem dX2_night_12 : decode cX2_night 12 = .ok (.iaload, 1) := by decide +kernel
theorem dX2_night_13 : decode cX2_night 13 = .ok (.if_icmp .ge 56, 3) := by decide +kernel
theorem dX2_night_16 : decode cX2_night 16 = .ok (.iconst 0, 1) := by decide +kernel
theorem dX2_night_17 : decode cX2_night 17 = .ok (.istore_n 3, 1) := by decide +kernel
theorem dX2_night_18 : decode cX2_night 18 = .ok (.iload_n 3, 1) := by decide +kernel
theorem dX2_night_19 : decode cX2_night 19 = .ok (.bipush 6, 2) := by decide +kernel
theorem dX2_night_21 : decode cX2_night 21 = .ok (.if_icmp .ge 42, 3) := by decide +kernel
theorem dX2_night_24 : decode cX2_night 24 = .ok (.iload_n 2, 1) := by decide +kernel
theorem dX2_night_25 : decode cX2_night 25 = .ok (.iconst 2, 1) := by decide +kernel
theorem dX2_night_26 : decode cX2_night 26 = .ok (.iload_n 3, 1) := by decide +kernel
theorem dX2_night_27 : decode cX2_night 27 = .ok (.iadd, 1) := by decide +kernel
theorem dX2_night_28 : decode cX2_night 28 = .ok (.invokestatic 48, 3) := by decide +kernel
theorem dX2_night_31 : decode cX2_night 31 = .ok (.istore 4, 2) := by decide +kernel
theorem dX2_night_33 : decode cX2_night 33 = .ok (.aload_n 0, 1) := by decide +kernel
theorem dX2_night_34 : decode cX2_night 34 = .ok (.iload 4, 2) := by decide +kernel
theorem dX2_night_36 : decode cX2_night 36 = .ok (.iaload, 1) := by decide +kernel
theorem dX2_night_37 : decode cX2_night 37 = .ok (.ifCond .le 20, 3) := by decide +kernel
theorem dX2_night_40 : decode cX2_night 40 = .ok (.aload_n 0, 1) := by decide +kernel
theorem dX2_night_41 : decode cX2_night 41 = .ok (.iload 4, 2) := by decide +kernel
theorem dX2_night_43 : decode cX2_night 43 = .ok (.iaload, 1) := by decide +kernel
theorem dX2_night_44 : decode cX2_night 44 = .ok (.bipush 99, 2) := by decide +kernel
theorem dX2_night_46 : decode cX2_night 46 = .ok (.if_icmp .ge 11, 3) := by decide +kernel
theorem dX2_night_49 : decode cX2_night 49 = .ok (.aload_n 0, 1) := by decide +kernel
theorem dX2_night_50 : decode cX2_night 50 = .ok (.iload 4, 2) := by decide +kernel
theorem dX2_night_52 : decode cX2_night 52 = .ok (.dup2, 1) := by decide +kernel
theorem dX2_night_53 : decode cX2_night 53 = .ok (.iaload, 1) := by decide +kernel
theorem dX2_night_54 : decode cX2_night 54 = .ok (.iconst 1, 1) := by decide +kernel
theorem dX2_night_55 : decode cX2_night 55 = .ok (.isub, 1) := by decide +kernel
theorem dX2_night_56 : decode cX2_night 56 = .ok (.iastore, 1) := by decide +kernel
theorem dX2_night_57 : decode cX2_night 57 = .ok (.iinc 3 1, 3) := by decide +kernel
theorem dX2_night_60 : decode cX2_night 60 = .ok (.goto (-42), 3) := by decide +kernel
theorem dX2_night_63 : decode cX2_night 63 = .ok (.iinc 2 1, 3) := by decide +kernel
theorem dX2_night_66 : decode cX2_night 66 = .ok (.goto (-57), 3) := by decide +kernel
theorem dX2_night_69 : decode cX2_night 69 = .ok (.aload_n 0, 1) := by decide +kernel
theorem dX2_night_70 : decode cX2_night 70 = .ok (.invokestatic 80, 3) := by decide +kernel
theorem dX2_night_73 : decode cX2_night 73 = .ok (.istore_n 2, 1) := by decide +kernel
theorem dX2_night_74 : decode cX2_night 74 = .ok (.iload_n 2, 1) := by decide +kernel
theorem dX2_night_75 : decode cX2_night 75 = .ok (.ifCond .lt 9, 3) := by decide +kernel
theorem dX2_night_78 : decode cX2_night 78 = .ok (.aload_n 0, 1) := by decide +kernel
theorem dX2_night_79 : decode cX2_night 79 = .ok (.iload_n 2, 1) := by decide +kernel
theorem dX2_night_80 : decode cX2_night 80 = .ok (.iload_n 1, 1) := by decide +kernel
theorem dX2_night_81 : decode cX2_night 81 = .ok (.invokestatic 84, 3) := by decide +kernel
theorem dX2_night_84 : decode cX2_night 84 = .ok (.return_, 1) := by decide +kernel
theorem dX2_nightsOn_0 : decode cX2_nightsOn 0 = .ok (.iconst 0, 1) := by decide +kernel
theorem dX2_nightsOn_1 : decode cX2_nightsOn 1 = .ok (.istore_n 3, 1) := by decide +kernel
theorem dX2_nightsOn_2 : decode cX2_nightsOn 2 = .ok (.iload_n 3, 1) := by decide +kernel
theorem dX2_nightsOn_3 : decode cX2_nightsOn 3 = .ok (.iload_n 1, 1) := by decide +kernel
theorem dX2_nightsOn_4 : decode cX2_nightsOn 4 = .ok (.if_icmp .ge 14, 3) := by decide +kernel
theorem dX2_nightsOn_7 : decode cX2_nightsOn 7 = .ok (.aload_n 0, 1) := by decide +kernel
theorem dX2_nightsOn_8 : decode cX2_nightsOn 8 = .ok (.iload_n 2, 1) := by decide +kernel
theorem dX2_nightsOn_9 : decode cX2_nightsOn 9 = .ok (.invokestatic 87, 3) := by decide +kernel
theorem dX2_nightsOn_12 : decode cX2_nightsOn 12 = .ok (.iinc 3 1, 3) := by decide +kernel
theorem dX2_nightsOn_15 : decode cX2_nightsOn 15 = .ok (.goto (-13), 3) := by decide +kernel
theorem dX2_nightsOn_18 : decode cX2_nightsOn 18 = .ok (.return_, 1) := by decide +kernel
theorem dX2_wordsOf_0 : decode cX2_wordsOf 0 = .ok (.iconst 0, 1) := by decide +kernel
theorem dX2_wordsOf_1 : decode cX2_wordsOf 1 = .ok (.istore_n 2, 1) := by decide +kernel
theorem dX2_wordsOf_2 : decode cX2_wordsOf 2 = .ok (.iconst 0, 1) := by decide +kernel
theorem dX2_wordsOf_3 : decode cX2_wordsOf 3 = .ok (.istore_n 3, 1) := by decide +kernel
theorem dX2_wordsOf_4 : decode cX2_wordsOf 4 = .ok (.iload_n 3, 1) := by decide +kernel
theorem dX2_wordsOf_5 : decode cX2_wordsOf 5 = .ok (.bipush 6, 2) := by decide +kernel
theorem dX2_wordsOf_7 : decode cX2_wordsOf 7 = .ok (.if_icmp .ge 31, 3) := by decide +kernel
theorem dX2_wordsOf_10 : decode cX2_wordsOf 10 = .ok (.iload_n 2, 1) := by decide +kernel
theorem dX2_wordsOf_11 : decode cX2_wordsOf 11 = .ok (.aload_n 0, 1) := by decide +kernel
theorem dX2_wordsOf_12 : decode cX2_wordsOf 12 = .ok (.iload_n 1, 1) := by decide +kernel
theorem dX2_wordsOf_13 : decode cX2_wordsOf 13 = .ok (.iconst 2, 1) := by decide +kernel
theorem dX2_wordsOf_14 : decode cX2_wordsOf 14 = .ok (.iload_n 3, 1) := by decide +kernel
theorem dX2_wordsOf_15 : decode cX2_wordsOf 15 = .ok (.iadd, 1) := by decide +kernel
theorem dX2_wordsOf_16 : decode cX2_wordsOf 16 = .ok (.invokestatic 48, 3) := by decide +kernel
