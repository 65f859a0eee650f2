theorem dX0_copyFrom_89 : decode cX0_copyFrom 89 = .ok (.getfield 34, 3) := by decide +kernel
theorem dX0_copyFrom_92 : decode cX0_copyFrom 92 = .ok (.iconst 0, 1) := by decide +kernel
theorem dX0_copyFrom_93 : decode cX0_copyFrom 93 = .ok (.iconst 5, 1) := by decide +kernel
theorem dX0_copyFrom_94 : decode cX0_copyFrom 94 = .ok (.invokestatic 49, 3) := by decide +kernel
theorem dX0_copyFrom_97 : decode cX0_copyFrom 97 = .ok (.aload_n 1, 1) := by decide +kernel
theorem dX0_copyFrom_98 : decode cX0_copyFrom 98 = .ok (.getfield 37, 3) := by decide +kernel
theorem dX0_copyFrom_101 : decode cX0_copyFrom 101 = .ok (.iconst 0, 1) := by decide +kernel
theorem dX0_copyFrom_102 : decode cX0_copyFrom 102 = .ok (.aload_n 0, 1) := by decide +kernel
theorem dX0_copyFrom_103 : decode cX0_copyFrom 103 = .ok (.getfield 37, 3) := by decide +kernel
theorem dX0_copyFrom_106 : decode cX0_copyFrom 106 = .ok (.iconst 0, 1) := by decide +kernel
theorem dX0_copyFrom_107 : decode cX0_copyFrom 107 = .ok (.bipush 30, 2) := by decide +kernel
theorem dX0_copyFrom_109 : decode cX0_copyFrom 109 = .ok (.invokestatic 49, 3) := by decide +kernel
theorem dX0_copyFrom_112 : decode cX0_copyFrom 112 = .ok (.aload_n 0, 1) := by decide +kernel
theorem dX0_copyFrom_113 : decode cX0_copyFrom 113 = .ok (.aload_n 1, 1) := by decide +kernel
theorem dX0_copyFrom_114 : decode cX0_copyFrom 114 = .ok (.getfield 40, 3) := by decide +kernel
theorem dX0_copyFrom_117 : decode cX0_copyFrom 117 = .ok (.putfield 40, 3) := by decide +kernel
theorem dX0_copyFrom_120 : decode cX0_copyFrom 120 = .ok (.aload_n 0, 1) := by decide +kernel
theorem dX0_copyFrom_121 : decode cX0_copyFrom 121 = .ok (.aload_n 1, 1) := by decide +kernel
theorem dX0_copyFrom_122 : decode cX0_copyFrom 122 = .ok (.getfield 43, 3) := by decide +kernel
theorem dX0_copyFrom_125 : decode cX0_copyFrom 125 = .ok (.putfield 43, 3) := by decide +kernel
theorem dX0_copyFrom_128 : decode cX0_copyFrom 128 = .ok (.aload_n 0, 1) := by decide +kernel
theorem dX0_copyFrom_129 : decode cX0_copyFrom 129 = .ok (.aload_n 1, 1) := by decide +kernel
theorem dX0_copyFrom_130 : decode cX0_copyFrom 130 = .ok (.getfield 46, 3) := by decide +kernel
theorem dX0_copyFrom_133 : decode cX0_copyFrom 133 = .ok (.putfield 46, 3) := by decide +kernel
theorem dX0_copyFrom_136 : decode cX0_copyFrom 136 = .ok (.return_, 1) := by decide +kernel
theorem dX0_hasRocket_0 : decode cX0_hasRocket 0 = .ok (.iload_n 1, 1) := by decide +kernel
theorem dX0_hasRocket_1 : decode cX0_hasRocket 1 = .ok (.ifCond .lt 15, 3) := by decide +kernel
theorem dX0_hasRocket_4 : decode cX0_hasRocket 4 = .ok (.iload_n 1, 1) := by decide +kernel
theorem dX0_hasRocket_5 : decode cX0_hasRocket 5 = .ok (.aload_n 0, 1) := by decide +kernel
theorem dX0_hasRocket_6 : decode cX0_hasRocket 6 = .ok (.getfield 9, 3) := by decide +kernel
theorem dX0_hasRocket_9 : decode cX0_hasRocket 9 = .ok (.if_icmp .ge 7, 3) := by decide +kernel
theorem dX0_hasRocket_12 : decode cX0_hasRocket 12 = .ok (.iconst 1, 1) := by decide +kernel
theorem dX0_hasRocket_13 : decode cX0_hasRocket 13 = .ok (.goto 4, 3) := by decide +kernel
theorem dX0_hasRocket_16 : decode cX0_hasRocket 16 = .ok (.iconst 0, 1) := by decide +kernel
theorem dX0_hasRocket_17 : decode cX0_hasRocket 17 = .ok (.ireturn, 1) := by decide +kernel
theorem dX0_hasReader_0 : decode cX0_hasReader 0 = .ok (.iload_n 1, 1) := by decide +kernel
theorem dX0_hasReader_1 : decode cX0_hasReader 1 = .ok (.ifCond .lt 15, 3) := by decide +kernel
theorem dX0_hasReader_4 : decode cX0_hasReader 4 = .ok (.iload_n 1, 1) := by decide +kernel
theorem dX0_hasReader_5 : decode cX0_hasReader 5 = .ok (.aload_n 0, 1) := by decide +kernel
theorem dX0_hasReader_6 : decode cX0_hasReader 6 = .ok (.getfield 28, 3) := by decide +kernel
theorem dX0_hasReader_9 : decode cX0_hasReader 9 = .ok (.if_icmp .ge 7, 3) := by decide +kernel
theorem dX0_hasReader_12 : decode cX0_hasReader 12 = .ok (.iconst 1, 1) := by decide +kernel
theorem dX0_hasReader_13 : decode cX0_hasReader 13 = .ok (.goto 4, 3) := by decide +kernel
theorem dX0_hasReader_16 : decode cX0_hasReader 16 = .ok (.iconst 0, 1) := by decide +kernel
theorem dX0_hasReader_17 : decode cX0_hasReader 17 = .ok (.ireturn, 1) := by decide +kernel
theorem dX0_addRocket_0 : decode cX0_addRocket 0 = .ok (.iload_n 1, 1) := by decide +kernel
theorem dX0_addRocket_1 : decode cX0_addRocket 1 = .ok (.ifCond .lt 23, 3) := by decide +kernel
theorem dX0_addRocket_4 : decode cX0_addRocket 4 = .ok (.iload_n 1, 1) := by decide +kernel
theorem dX0_addRocket_5 : decode cX0_addRocket 5 = .ok (.bipush 6, 2) := by decide +kernel
theorem dX0_addRocket_7 : decode cX0_addRocket 7 = .ok (.if_icmp .ge 17, 3) := by decide +kernel
theorem dX0_addRocket_10 : decode cX0_addRocket 10 = .ok (.iload_n 3, 1) := by decide +kernel
theorem dX0_addRocket_11 : decode cX0_addRocket 11 = .ok (.ifCond .lt 13, 3) := by decide +kernel
theorem dX0_addRocket_14 : decode cX0_addRocket 14 = .ok (.iload_n 3, 1) := by decide +kernel
theorem dX0_addRocket_15 : decode cX0_addRocket 15 = .ok (.bipush 6, 2) := by decide +kernel
theorem dX0_addRocket_17 : decode cX0_addRocket 17 = .ok (.if_icmp .ge 7, 3) := by decide +kernel
theorem dX0_addRocket_20 : decode cX0_addRocket 20 = .ok (.iconst 1, 1) := by decide +kernel
theorem dX0_addRocket_21 : decode cX0_addRocket 21 = .ok (.goto 4, 3) := by decide +kernel
theorem dX0_addRocket_24 : decode cX0_addRocket 24 = .ok (.iconst 0, 1) := by decide +kernel
theorem dX0_addRocket_25 : decode cX0_addRocket 25 = .ok (.istore 4, 2) := by decide +kernel
theorem dX0_addRocket_27 : decode cX0_addRocket 27 = .ok (.iload 4, 2) := by decide +kernel
theorem dX0_addRocket_29 : decode cX0_addRocket 29 = .ok (.ifCond .eq 12, 3) := by decide +kernel
theorem dX0_addRocket_32 : decode cX0_addRocket 32 = .ok (.aload_n 0, 1) := by decide +kernel
theorem dX0_addRocket_33 : decode cX0_addRocket 33 = .ok (.getfield 9, 3) := by decide +kernel
theorem dX0_addRocket_36 : decode cX0_addRocket 36 = .ok (.bipush 9, 2) := by decide +kernel
theorem dX0_addRocket_38 : decode cX0_addRocket 38 = .ok (.if_icmp .lt 5, 3) := by decide +kernel
theorem dX0_addRocket_41 : decode cX0_addRocket 41 = .ok (.iconst 0, 1) := by decide +kernel
theorem dX0_addRocket_42 : decode cX0_addRocket 42 = .ok (.ireturn, 1) := by decide +kernel
theorem dX0_addRocket_43 : decode cX0_addRocket 43 = .ok (.aload_n 0, 1) := by decide +kernel
theorem dX0_addRocket_44 : decode cX0_addRocket 44 = .ok (.getfield 15, 3) := by decide +kernel
theorem dX0_addRocket_47 : decode cX0_addRocket 47 = .ok (.aload_n 0, 1) := by decide +kernel
theorem dX0_addRocket_48 : decode cX0_addRocket 48 = .ok (.getfield 9, 3) := by decide +kernel
theorem dX0_addRocket_51 : decode cX0_addRocket 51 = .ok (.iload_n 1, 1) := by decide +kernel
theorem dX0_addRocket_52 : decode cX0_addRocket 52 = .ok (.iastore, 1) := by decide +kernel
theorem dX0_addRocket_53 : decode cX0_addRocket 53 = .ok (.aload_n 0, 1) := by decide +kernel
theorem dX0_addRocket_54 : decode cX0_addRocket 54 = .ok (.getfield 19, 3) := by decide +kernel
theorem dX0_addRocket_57 : decode cX0_addRocket 57 = .ok (.aload_n 0, 1) := by decide +kernel
theorem dX0_addRocket_58 : decode cX0_addRocket 58 = .ok (.getfield 9, 3) := by decide +kernel
theorem dX0_addRocket_61 : decode cX0_addRocket 61 = .ok (.iload_n 2, 1) := by decide +kernel
theorem dX0_addRocket_62 : decode cX0_addRocket 62 = .ok (.iastore, 1) := by decide +kernel
theorem dX0_addRocket_63 : decode cX0_addRocket 63 = .ok (.aload_n 0, 1) := by decide +kernel
theorem dX0_addRocket_64 : decode cX0_addRocket 64 = .ok (.getfield 22, 3) := by decide +kernel
theorem dX0_addRocket_67 : decode cX0_addRocket 67 = .ok (.aload_n 0, 1) := by decide +kernel
theorem dX0_addRocket_68 : decode cX0_addRocket 68 = .ok (.getfield 9, 3) := by decide +kernel
theorem dX0_addRocket_71 : decode cX0_addRocket 71 = .ok (.iload_n 3, 1) := by decide +kernel
theorem dX0_addRocket_72 : decode cX0_addRocket 72 = .ok (.iastore, 1) := by decide +kernel
theorem dX0_addRocket_73 : decode cX0_addRocket 73 = .ok (.aload_n 0, 1) := by decide +kernel
theorem dX0_addRocket_74 : decode cX0_addRocket 74 = .ok (.dup, 1) := by decide +kernel
theorem dX0_addRocket_75 : decode cX0_addRocket 75 = .ok (.getfield 9, 3) := by decide +kernel
theorem dX0_addRocket_78 : decode cX0_addRocket 78 = .ok (.iconst 1, 1) := by decide +kernel
theorem dX0_addRocket_79 : decode cX0_addRocket 79 = .ok (.iadd, 1) := by decide +kernel
theorem dX0_addRocket_80 : decode cX0_addRocket 80 = .ok (.putfield 9, 3) := by decide +kernel
theorem dX0_addRocket_83 : decode cX0_addRocket 83 = .ok (.iconst 1, 1) := by decide +kernel
theorem dX0_addRocket_84 : decode cX0_addRocket 84 = .ok (.ireturn, 1) := by decide +kernel
theorem dX0_addReader_0 : decode cX0_addReader 0 = .ok (.iload_n 1, 1) := by decide +kernel
theorem dX0_addReader_1 : decode cX0_addReader 1 = .ok (.ifCond .lt 17, 3) := by decide +kernel
theorem dX0_addReader_4 : decode cX0_addReader 4 = .ok (.iload_n 1, 1) := by decide +kernel
theorem dX0_addReader_5 : decode cX0_addReader 5 = .ok (.bipush 20, 2) := by decide +kernel
theorem dX0_addReader_7 : decode cX0_addReader 7 = .ok (.if_icmp .ge 11, 3) := by decide +kernel
theorem dX0_addReader_10 : decode cX0_addReader 10 = .ok (.aload_n 0, 1) := by decide +kernel
theorem dX0_addReader_11 : decode cX0_addReader 11 = .ok (.getfield 28, 3) := by decide +kernel
theorem dX0_addReader_14 : decode cX0_addReader 14 = .ok (.iconst 5, 1) := by decide +kernel
theorem dX0_addReader_15 : decode cX0_addReader 15 = .ok (.if_icmp .lt 5, 3) := by decide +kernel
theorem dX0_addReader_18 : decode cX0_addReader 18 = .ok (.iconst 0, 1) := by decide +kernel
theorem dX0_addReader_19 : decode cX0_addReader 19 = .ok (.ireturn, 1) := by decide +kernel
theorem dX0_addReader_20 : decode cX0_addReader 20 = .ok (.aload_n 0, 1) := by decide +kernel
theorem dX0_addReader_21 : decode cX0_addReader 21 = .ok (.getfield 31, 3) := by decide +kernel
theorem dX0_addReader_24 : decode cX0_addReader 24 = .ok (.aload_n 0, 1) := by decide +kernel
theorem dX0_addReader_25 : decode cX0_addReader 25 = .ok (.getfield 28, 3) := by decide +kernel
theorem dX0_addReader_28 : decode cX0_addReader 28 = .ok (.iload_n 1, 1) := by decide +kernel
theorem dX0_addReader_29 : decode cX0_addReader 29 = .ok (.iastore, 1) := by decide +kernel
theorem dX0_addReader_30 : decode cX0_addReader 30 = .ok (.aload_n 0, 1) := by decide +kernel
theorem dX0_addReader_31 : decode cX0_addReader 31 = .ok (.getfield 34, 3) := by decide +kernel
theorem dX0_addReader_34 : decode cX0_addReader 34 = .ok (.aload_n 0, 1) := by decide +kernel
theorem dX0_addReader_35 : decode cX0_addReader 35 = .ok (.getfield 28, 3) := by decide +kernel
theorem dX0_addReader_38 : decode cX0_addReader 38 = .ok (.iload_n 2, 1) := by decide +kernel
theorem dX0_addReader_39 : decode cX0_addReader 39 = .ok (.iastore, 1) := by decide +kernel
theorem dX0_addReader_40 : decode cX0_addReader 40 = .ok (.aload_n 0, 1) := by decide +kernel
theorem dX0_addReader_41 : decode cX0_addReader 41 = .ok (.dup, 1) := by decide +kernel
theorem dX0_addReader_42 : decode cX0_addReader 42 = .ok (.getfield 28, 3) := by decide +kernel
theorem dX0_addReader_45 : decode cX0_addReader 45 = .ok (.iconst 1, 1) := by decide +kernel
theorem dX0_addReader_46 : decode cX0_addReader 46 = .ok (.iadd, 1) := by decide +kernel
theorem dX0_addReader_47 : decode cX0_addReader 47 = .ok (.putfield 28, 3) := by decide +kernel
theorem dX0_addReader_50 : decode cX0_addReader 50 = .ok (.iconst 1, 1) := by decide +kernel
theorem dX0_addReader_51 : decode cX0_addReader 51 = .ok (.ireturn, 1) := by decide +kernel
theorem dX0_isSent_0 : decode cX0_isSent 0 = .ok (.aload_n 0, 1) := by decide +kernel
theorem dX0_isSent_1 : decode cX0_isSent 1 = .ok (.getfield 25, 3) := by decide +kernel
theorem dX0_isSent_4 : decode cX0_isSent 4 = .ok (.iload_n 1, 1) := by decide +kernel
theorem dX0_isSent_5 : decode cX0_isSent 5 = .ok (.ishr, 1) := by decide +kernel
theorem dX0_isSent_6 : decode cX0_isSent 6 = .ok (.iconst 1, 1) := by decide +kernel
theorem dX0_isSent_7 : decode cX0_isSent 7 = .ok (.iand, 1) := by decide +kernel
theorem dX0_isSent_8 : decode cX0_isSent 8 = .ok (.iconst 1, 1) := by decide +kernel
theorem dX0_isSent_9 : decode cX0_isSent 9 = .ok (.if_icmp .ne 7, 3) := by decide +kernel
theorem dX0_isSent_12 : decode cX0_isSent 12 = .ok (.iconst 1, 1) := by decide +kernel
theorem dX0_isSent_13 : decode cX0_isSent 13 = .ok (.goto 4, 3) := by decide +kernel
theorem dX0_isSent_16 : decode cX0_isSent 16 = .ok (.iconst 0, 1) := by decide +kernel
theorem dX0_isSent_17 : decode cX0_isSent 17 = .ok (.ireturn, 1) := by decide +kernel
theorem dX0_costOf_0 : decode cX0_costOf 0 = .ok (.getstatic 55, 3) := by decide +kernel
theorem dX0_costOf_3 : decode cX0_costOf 3 = .ok (.aload_n 0, 1) := by decide +kernel
theorem dX0_costOf_4 : decode cX0_costOf 4 = .ok (.getfield 15, 3) := by decide +kernel
theorem dX0_costOf_7 : decode cX0_costOf 7 = .ok (.iload_n 1, 1) := by decide +kernel
theorem dX0_costOf_8 : decode cX0_costOf 8 = .ok (.iaload, 1) := by decide +kernel
theorem dX0_costOf_9 : decode cX0_costOf 9 = .ok (.iaload, 1) := by decide +kernel
theorem dX0_costOf_10 : decode cX0_costOf 10 = .ok (.ireturn, 1) := by decide +kernel
theorem dX0_reachOf_0 : decode cX0_reachOf 0 = .ok (.aload_n 0, 1) := by decide +kernel
theorem dX0_reachOf_1 : decode cX0_reachOf 1 = .ok (.getfield 19, 3) := by decide +kernel
theorem dX0_reachOf_4 : decode cX0_reachOf 4 = .ok (.iload_n 1, 1) := by decide +kernel
theorem dX0_reachOf_5 : decode cX0_reachOf 5 = .ok (.iaload, 1) := by decide +kernel
theorem dX0_reachOf_6 : decode cX0_reachOf 6 = .ok (.iconst 2, 1) := by decide +kernel
theorem dX0_reachOf_7 : decode cX0_reachOf 7 = .ok (.idiv, 1) := by decide +kernel
theorem dX0_reachOf_8 : decode cX0_reachOf 8 = .ok (.iconst 2, 1) := by decide +kernel
theorem dX0_reachOf_9 : decode cX0_reachOf 9 = .ok (.iadd, 1) := by decide +kernel
theorem dX0_reachOf_10 : decode cX0_reachOf 10 = .ok (.istore_n 2, 1) := by decide +kernel
theorem dX0_reachOf_11 : decode cX0_reachOf 11 = .ok (.aload_n 0, 1) := by decide +kernel
theorem dX0_reachOf_12 : decode cX0_reachOf 12 = .ok (.getfield 15, 3) := by decide +kernel
theorem dX0_reachOf_15 : decode cX0_reachOf 15 = .ok (.iload_n 1, 1) := by decide +kernel
theorem dX0_reachOf_16 : decode cX0_reachOf 16 = .ok (.iaload, 1) := by decide +kernel
theorem dX0_reachOf_17 : decode cX0_reachOf 17 = .ok (.tableswitch 57 1 5 #[35, 43, 47, 39, 51], 35) := by decide +kernel
theorem dX0_reachOf_52 : decode cX0_reachOf 52 = .ok (.iload_n 2, 1) := by decide +kernel
theorem dX0_reachOf_53 : decode cX0_reachOf 53 = .ok (.iconst 2, 1) := by decide +kernel
theorem dX0_reachOf_54 : decode cX0_reachOf 54 = .ok (.idiv, 1) := by decide +kernel
theorem dX0_reachOf_55 : decode cX0_reachOf 55 = .ok (.ireturn, 1) := by decide +kernel
theorem dX0_reachOf_56 : decode cX0_reachOf 56 = .ok (.iload_n 2, 1) := by decide +kernel
theorem dX0_reachOf_57 : decode cX0_reachOf 57 = .ok (.iconst 2, 1) := by decide +kernel
theorem dX0_reachOf_58 : decode cX0_reachOf 58 = .ok (.idiv, 1) := by decide +kernel
theorem dX0_reachOf_59 : decode cX0_reachOf 59 = .ok (.ireturn, 1) := by decide +kernel
theorem dX0_reachOf_60 : decode cX0_reachOf 60 = .ok (.iload_n 2, 1) := by decide +kernel
theorem dX0_reachOf_61 : decode cX0_reachOf 61 = .ok (.iconst 3, 1) := by decide +kernel
theorem dX0_reachOf_62 : decode cX0_reachOf 62 = .ok (.iadd, 1) := by decide +kernel
theorem dX0_reachOf_63 : decode cX0_reachOf 63 = .ok (.ireturn, 1) := by decide +kernel
theorem dX0_reachOf_64 : decode cX0_reachOf 64 = .ok (.iload_n 2, 1) := by decide +kernel
theorem dX0_reachOf_65 : decode cX0_reachOf 65 = .ok (.iconst 3, 1) := by decide +kernel
theorem dX0_reachOf_66 : decode cX0_reachOf 66 = .ok (.iadd, 1) := by decide +kernel
theorem dX0_reachOf_67 : decode cX0_reachOf 67 = .ok (.ireturn, 1) := by decide +kernel
theorem dX0_reachOf_68 : decode cX0_reachOf 68 = .ok (.iconst 2, 1) := by decide +kernel
theorem dX0_reachOf_69 : decode cX0_reachOf 69 = .ok (.iload_n 2, 1) := by decide +kernel
theorem dX0_reachOf_70 : decode cX0_reachOf 70 = .ok (.iconst 3, 1) := by decide +kernel
theorem dX0_reachOf_71 : decode cX0_reachOf 71 = .ok (.iadd, 1) := by decide +kernel
theorem dX0_reachOf_72 : decode cX0_reachOf 72 = .ok (.imul, 1) := by decide +kernel
theorem dX0_reachOf_73 : decode cX0_reachOf 73 = .ok (.ireturn, 1) := by decide +kernel
theorem dX0_reachOf_74 : decode cX0_reachOf 74 = .ok (.iload_n 2, 1) := by decide +kernel
theorem dX0_reachOf_75 : decode cX0_reachOf 75 = .ok (.ireturn, 1) := by decide +kernel
theorem dX0_darkOf_0 : decode cX0_darkOf 0 = .ok (.aload_n 0, 1) := by decide +kernel
theorem dX0_darkOf_1 : decode cX0_darkOf 1 = .ok (.getfield 19, 3) := by decide +kernel
theorem dX0_darkOf_4 : decode cX0_darkOf 4 = .ok (.iload_n 1, 1) := by decide +kernel
theorem dX0_darkOf_5 : decode cX0_darkOf 5 = .ok (.iaload, 1) := by decide +kernel
theorem dX0_darkOf_6 : decode cX0_darkOf 6 = .ok (.iconst 1, 1) := by decide +kernel
theorem dX0_darkOf_7 : decode cX0_darkOf 7 = .ok (.iadd, 1) := by decide +kernel
theorem dX0_darkOf_8 : decode cX0_darkOf 8 = .ok (.istore_n 2, 1) := by decide +kernel
theorem dX0_darkOf_9 : decode cX0_darkOf 9 = .ok (.aload_n 0, 1) := by decide +kernel
theorem dX0_darkOf_10 : decode cX0_darkOf 10 = .ok (.getfield 15, 3) := by decide +kernel
theorem dX0_darkOf_13 : decode cX0_darkOf 13 = .ok (.iload_n 1, 1) := by decide +kernel
theorem dX0_darkOf_14 : decode cX0_darkOf 14 = .ok (.iaload, 1) := by decide +kernel
theorem dX0_darkOf_15 : decode cX0_darkOf 15 = .ok (.tableswitch 50 1 5 #[33, 38, 42, 35, 46], 33) := by decide +kernel
theorem dX0_darkOf_48 : decode cX0_darkOf 48 = .ok (.iconst 0, 1) := by decide +kernel
theorem dX0_darkOf_49 : decode cX0_darkOf 49 = .ok (.ireturn, 1) := by decide +kernel
theorem dX0_darkOf_50 : decode cX0_darkOf 50 = .ok (.bipush 9, 2) := by decide +kernel
theorem dX0_darkOf_52 : decode cX0_darkOf 52 = .ok (.ireturn, 1) := by decide +kernel
theorem dX0_darkOf_53 : decode cX0_darkOf 53 = .ok (.iconst 2, 1) := by decide +kernel
theorem dX0_darkOf_54 : decode cX0_darkOf 54 = .ok (.iload_n 2, 1) := by decide +kernel
theorem dX0_darkOf_55 : decode cX0_darkOf 55 = .ok (.imul, 1) := by decide +kernel
theorem dX0_darkOf_56 : decode cX0_darkOf 56 = .ok (.ireturn, 1) := by decide +kernel
theorem dX0_darkOf_57 : decode cX0_darkOf 57 = .ok (.iconst 2, 1) := by decide +kernel
theorem dX0_darkOf_58 : decode cX0_darkOf 58 = .ok (.iload_n 2, 1) := by decide +kernel
theorem dX0_darkOf_59 : decode cX0_darkOf 59 = .ok (.imul, 1) := by decide +kernel
theorem dX0_darkOf_60 : decode cX0_darkOf 60 = .ok (.ireturn, 1) := by decide +kernel
theorem dX0_darkOf_61 : decode cX0_darkOf 61 = .ok (.iconst 2, 1) := by decide +kernel
theorem dX0_darkOf_62 : decode cX0_darkOf 62 = .ok (.iload_n 2, 1) := by decide +kernel
theorem dX0_darkOf_63 : decode cX0_darkOf 63 = .ok (.imul, 1) := by decide +kernel
theorem dX0_darkOf_64 : decode cX0_darkOf 64 = .ok (.ireturn, 1) := by decide +kernel
theorem dX0_darkOf_65 : decode cX0_darkOf 65 = .ok (.iload_n 2, 1) := by decide +kernel
theorem dX0_darkOf_66 : decode cX0_darkOf 66 = .ok (.ireturn, 1) := by decide +kernel
theorem dX0_burstOf_0 : decode cX0_burstOf 0 = .ok (.aload_n 0, 1) := by decide +kernel
theorem dX0_burstOf_1 : decode cX0_burstOf 1 = .ok (.getfield 15, 3) := by decide +kernel
theorem dX0_burstOf_4 : decode cX0_burstOf 4 = .ok (.iload_n 1, 1) := by decide +kernel
theorem dX0_burstOf_5 : decode cX0_burstOf 5 = .ok (.iaload, 1) := by decide +kernel
theorem dX0_burstOf_6 : decode cX0_burstOf 6 = .ok (.iconst 3, 1) := by decide +kernel
theorem dX0_burstOf_7 : decode cX0_burstOf 7 = .ok (.if_icmp .eq 13, 3) := by decide +kernel
theorem dX0_burstOf_10 : decode cX0_burstOf 10 = .ok (.aload_n 0, 1) := by decide +kernel
theorem dX0_burstOf_11 : decode cX0_burstOf 11 = .ok (.getfield 15, 3) := by decide +kernel
theorem dX0_burstOf_14 : decode cX0_burstOf 14 = .ok (.iload_n 1, 1) := by decide +kernel
theorem dX0_burstOf_15 : decode cX0_burstOf 15 = .ok (.iaload, 1) := by decide +kernel
theorem dX0_burstOf_16 : decode cX0_burstOf 16 = .ok (.iconst 5, 1) := by decide +kernel
theorem dX0_burstOf_17 : decode cX0_burstOf 17 = .ok (.if_icmp .ne 7, 3) := by decide +kernel
theorem dX0_burstOf_20 : decode cX0_burstOf 20 = .ok (.iconst 1, 1) := by decide +kernel
theorem dX0_burstOf_21 : decode cX0_burstOf 21 = .ok (.goto 4, 3) := by decide +kernel
theorem dX0_burstOf_24 : decode cX0_burstOf 24 = .ok (.iconst 0, 1) := by decide +kernel
theorem dX0_burstOf_25 : decode cX0_burstOf 25 = .ok (.istore_n 2, 1) := by decide +kernel
theorem dX0_burstOf_26 : decode cX0_burstOf 26 = .ok (.aload_n 0, 1) := by decide +kernel
theorem dX0_burstOf_27 : decode cX0_burstOf 27 = .ok (.getfield 43, 3) := by decide +kernel
theorem dX0_burstOf_30 : decode cX0_burstOf 30 = .ok (.iconst 5, 1) := by decide +kernel
theorem dX0_burstOf_31 : decode cX0_burstOf 31 = .ok (.isub, 1) := by decide +kernel
theorem dX0_burstOf_32 : decode cX0_burstOf 32 = .ok (.istore_n 3, 1) := by decide +kernel
theorem dX0_burstOf_33 : decode cX0_burstOf 33 = .ok (.bipush 10, 2) := by decide +kernel
theorem dX0_burstOf_35 : decode cX0_burstOf 35 = .ok (.iload_n 2, 1) := by decide +kernel
theorem dX0_burstOf_36 : decode cX0_burstOf 36 = .ok (.ifCond .eq 9, 3) := by decide +kernel
theorem dX0_burstOf_39 : decode cX0_burstOf 39 = .ok (.iconst 3, 1) := by decide +kernel
theorem dX0_burstOf_40 : decode cX0_burstOf 40 = .ok (.iload_n 3, 1) := by decide +kernel
theorem dX0_burstOf_41 : decode cX0_burstOf 41 = .ok (.imul, 1) := by decide +kernel
theorem dX0_burstOf_42 : decode cX0_burstOf 42 = .ok (.goto 4, 3) := by decide +kernel
theorem dX0_burstOf_45 : decode cX0_burstOf 45 = .ok (.iload_n 3, 1) := by decide +kernel
theorem dX0_burstOf_46 : decode cX0_burstOf 46 = .ok (.iadd, 1) := by decide +kernel
theorem dX0_burstOf_47 : decode cX0_burstOf 47 = .ok (.istore 4, 2) := by decide +kernel
theorem dX0_burstOf_49 : decode cX0_burstOf 49 = .ok (.iload 4, 2) := by decide +kernel
theorem dX0_burstOf_51 : decode cX0_burstOf 51 = .ok (.ifCond .ge 5, 3) := by decide +kernel
theorem dX0_burstOf_54 : decode cX0_burstOf 54 = .ok (.iconst 0, 1) := by decide +kernel
theorem dX0_burstOf_55 : decode cX0_burstOf 55 = .ok (.ireturn, 1) := by decide +kernel
theorem dX0_burstOf_56 : decode cX0_burstOf 56 = .ok (.iload 4, 2) := by decide +kernel
theorem dX0_burstOf_58 : decode cX0_burstOf 58 = .ok (.bipush 20, 2) := by decide +kernel
theorem dX0_burstOf_60 : decode cX0_burstOf 60 = .ok (.if_icmp .lt 8, 3) := by decide +kernel
theorem dX0_burstOf_63 : decode cX0_burstOf 63 = .ok (.bipush 19, 2) := by decide +kernel
theorem dX0_burstOf_65 : decode cX0_burstOf 65 = .ok (.goto 5, 3) := by decide +kernel
theorem dX0_burstOf_68 : decode cX0_burstOf 68 = .ok (.iload 4, 2) := by decide +kernel
theorem dX0_burstOf_70 : decode cX0_burstOf 70 = .ok (.ireturn, 1) := by decide +kernel
set_option maxRecDepth 20000 in
theorem ggX0_readersOf_X0_burstOf : GoodIn wsX0_readersOf wsX0_burstOf := goodIn_r _ [7, 8, 9, 15, 16, 17, 18, 19, 20, 21, 22, 23, 24, 25, 26] (by decide +kernel) (by decide +kernel)
set_option maxRecDepth 20000 in
theorem gX0_readersOf_X0_burstOf : GoodIn wsX0_readersOf (wsV RX0 58 RX0 yX0_burstOf wsX0_burstOf) := goodIn_app (goodIn_of _ (by decide +kernel)) ggX0_readersOf_X0_burstOf
set_option maxRecDepth 20000 in
theorem ggX0_readersOf_X0_reachOf : GoodIn wsX0_readersOf wsX0_reachOf := goodIn_r _ [13, 14, 8, 15, 16, 17, 18, 19, 20, 21, 22, 23, 24, 25, 26] (by decide +kernel) (by decide +kernel)
set_option maxRecDepth 20000 in
theorem gX0_readersOf_X0_reachOf : GoodIn wsX0_readersOf (wsV RX0 62 RX0 yX0_reachOf wsX0_reachOf) := goodIn_app (goodIn_of _ (by decide +kernel)) ggX0_readersOf_X0_reachOf
theorem dX0_readersOf_0 : decode cX0_readersOf 0 = .ok (.aload_n 0, 1) := by decide +kernel
theorem dX0_readersOf_1 : decode cX0_readersOf 1 = .ok (.iload_n 1, 1) := by decide +kernel
theorem dX0_readersOf_2 : decode cX0_readersOf 2 = .ok (.invokevirtual 58, 3) := by decide +kernel
theorem dX0_readersOf_5 : decode cX0_readersOf 5 = .ok (.istore_n 2, 1) := by decide +kernel
theorem dX0_readersOf_6 : decode cX0_readersOf 6 = .ok (.aload_n 0, 1) := by decide +kernel
theorem dX0_readersOf_7 : decode cX0_readersOf 7 = .ok (.iload_n 1, 1) := by decide +kernel
theorem dX0_readersOf_8 : decode cX0_readersOf 8 = .ok (.invokevirtual 62, 3) := by decide +kernel
theorem dX0_readersOf_11 : decode cX0_readersOf 11 = .ok (.istore_n 3, 1) := by decide +kernel
theorem dX0_readersOf_12 : decode cX0_readersOf 12 = .ok (.iconst 0, 1) := by decide +kernel
theorem dX0_readersOf_13 : decode cX0_readersOf 13 = .ok (.istore 4, 2) := by decide +kernel
theorem dX0_readersOf_15 : decode cX0_readersOf 15 = .ok (.iconst 0, 1) := by decide +kernel
theorem dX0_readersOf_16 : decode cX0_readersOf 16 = .ok (.istore 5, 2) := by decide +kernel
theorem dX0_readersOf_18 : decode cX0_readersOf 18 = .ok (.iload 5, 2) := by decide +kernel
theorem dX0_readersOf_20 : decode cX0_readersOf 20 = .ok (.aload_n 0, 1) := by decide +kernel
theorem dX0_readersOf_21 : decode cX0_readersOf 21 = .ok (.getfield 28, 3) := by decide +kernel
theorem dX0_readersOf_24 : decode cX0_readersOf 24 = .ok (.if_icmp .ge 58, 3) := by decide +kernel
theorem dX0_readersOf_27 : decode cX0_readersOf 27 = .ok (.aload_n 0, 1) := by decide +kernel
theorem dX0_readersOf_28 : decode cX0_readersOf 28 = .ok (.getfield 31, 3) := by decide +kernel
theorem dX0_readersOf_31 : decode cX0_readersOf 31 = .ok (.iload 5, 2) := by decide +kernel
theorem dX0_readersOf_33 : decode cX0_readersOf 33 = .ok (.iaload, 1) := by decide +kernel
theorem dX0_readersOf_34 : decode cX0_readersOf 34 = .ok (.iload_n 2, 1) := by decide +kernel
theorem dX0_readersOf_35 : decode cX0_readersOf 35 = .ok (.if_icmp .ge 15, 3) := by decide +kernel
theorem dX0_readersOf_38 : decode cX0_readersOf 38 = .ok (.iload_n 2, 1) := by decide +kernel
theorem dX0_readersOf_39 : decode cX0_readersOf 39 = .ok (.aload_n 0, 1) := by decide +kernel
theorem dX0_readersOf_40 : decode cX0_readersOf 40 = .ok (.getfield 31, 3) := by decide +kernel
theorem dX0_readersOf_43 : decode cX0_readersOf 43 = .ok (.iload 5, 2) := by decide +kernel
theorem dX0_readersOf_45 : decode cX0_readersOf 45 = .ok (.iaload, 1) := by decide +kernel
theorem dX0_readersOf_46 : decode cX0_readersOf 46 = .ok (.isub, 1) := by decide +kernel
theorem dX0_readersOf_47 : decode cX0_readersOf 47 = .ok (.goto 12, 3) := by decide +kernel
theorem dX0_readersOf_50 : decode cX0_readersOf 50 = .ok (.aload_n 0, 1) := by decide +kernel
theorem dX0_readersOf_51 : decode cX0_readersOf 51 = .ok (.getfield 31, 3) := by decide +kernel
theorem dX0_readersOf_54 : decode cX0_readersOf 54 = .ok (.iload 5, 2) := by decide +kernel
theorem dX0_readersOf_56 : decode cX0_readersOf 56 = .ok (.iaload, 1) := by decide +kernel
theorem dX0_readersOf_57 : decode cX0_readersOf 57 = .ok (.iload_n 2, 1) := by decide +kernel
theorem dX0_readersOf_58 : decode cX0_readersOf 58 = .ok (.isub, 1) := by decide +kernel
theorem dX0_readersOf_59 : decode cX0_readersOf 59 = .ok (.istore 6, 2) := by decide +kernel
theorem dX0_readersOf_61 : decode cX0_readersOf 61 = .ok (.iload 6, 2) := by decide +kernel
theorem dX0_readersOf_63 : decode cX0_readersOf 63 = .ok (.iload_n 3, 1) := by decide +kernel
theorem dX0_readersOf_64 : decode cX0_readersOf 64 = .ok (.if_icmp .gt 12, 3) := by decide +kernel
theorem dX0_readersOf_67 : decode cX0_readersOf 67 = .ok (.iload 4, 2) := by decide +kernel
theorem dX0_readersOf_69 : decode cX0_readersOf 69 = .ok (.iconst 1, 1) := by decide +kernel
theorem dX0_readersOf_70 : decode cX0_readersOf 70 = .ok (.iload 5, 2) := by decide +kernel
theorem dX0_readersOf_72 : decode cX0_readersOf 72 = .ok (.ishl, 1) := by decide +kernel
theorem dX0_readersOf_73 : decode cX0_readersOf 73 = .ok (.ior, 1) := by decide +kernel
theorem dX0_readersOf_74 : decode cX0_readersOf 74 = .ok (.istore 4, 2) := by decide +kernel
theorem dX0_readersOf_76 : decode cX0_readersOf 76 = .ok (.iinc 5 1, 3) := by decide +kernel
theorem dX0_readersOf_79 : decode cX0_readersOf 79 = .ok (.goto (-61), 3) := by decide +kernel
theorem dX0_readersOf_82 : decode cX0_readersOf 82 = .ok (.iload 4, 2) := by decide +kernel
theorem dX0_readersOf_84 : decode cX0_readersOf 84 = .ok (.ireturn, 1) := by decide +kernel
set_option maxRecDepth 20000 in
theorem ggX0_canSend_X0_hasRocket : GoodIn wsX0_canSend wsX0_hasRocket := goodIn_r _ [6, 7, 18, 19, 20, 21, 22, 23, 24, 25, 26, 27, 28, 29] (by decide +kernel) (by decide +kernel)
set_option maxRecDepth 20000 in
theorem gX0_canSend_X0_hasRocket : GoodIn wsX0_canSend (wsV RX0 65 RX0 yX0_hasRocket wsX0_hasRocket) := goodIn_app (goodIn_of _ (by decide +kernel)) ggX0_canSend_X0_hasRocket
set_option maxRecDepth 20000 in
theorem ggX0_canSend_X0_isSent : GoodIn wsX0_canSend wsX0_isSent := goodIn_r _ [11, 12, 18, 19, 20, 21, 22, 23, 24, 25, 26, 27, 28, 29] (by decide +kernel) (by decide +kernel)
set_option maxRecDepth 20000 in
theorem gX0_canSend_X0_isSent : GoodIn wsX0_canSend (wsV RX0 69 RX0 yX0_isSent wsX0_isSent) := goodIn_app (goodIn_of _ (by decide +kernel)) ggX0_canSend_X0_isSent
set_option maxRecDepth 20000 in
theorem ggX0_canSend_X0_costOf : GoodIn wsX0_canSend wsX0_costOf := goodIn_r _ [16, 17, 18, 19, 20, 21, 22, 23, 24, 25, 26, 27, 28, 29] (by decide +kernel) (by decide +kernel)
set_option maxRecDepth 20000 in
theorem gX0_canSend_X0_costOf : GoodIn wsX0_canSend (wsV RX0 72 RX0 yX0_costOf wsX0_costOf) := goodIn_app (goodIn_of _ (by decide +kernel)) ggX0_canSend_X0_costOf
theorem dX0_canSend_0 : decode cX0_canSend 0 = .ok (.aload_n 0, 1) := by decide +kernel
theorem dX0_canSend_1 : decode cX0_canSend 1 = .ok (.iload_n 1, 1) := by decide +kernel
theorem dX0_canSend_2 : decode cX0_canSend 2 = .ok (.invokevirtual 65, 3) := by decide +kernel
theorem dX0_canSend_5 : decode cX0_canSend 5 = .ok (.ifCond .eq 27, 3) := by decide +kernel
theorem dX0_canSend_8 : decode cX0_canSend 8 = .ok (.aload_n 0, 1) := by decide +kernel
theorem dX0_canSend_9 : decode cX0_canSend 9 = .ok (.iload_n 1, 1) := by decide +kernel
theorem dX0_canSend_10 : decode cX0_canSend 10 = .ok (.invokevirtual 69, 3) := by decide +kernel
theorem dX0_canSend_13 : decode cX0_canSend 13 = .ok (.ifCond .ne 19, 3) := by decide +kernel
theorem dX0_canSend_16 : decode cX0_canSend 16 = .ok (.aload_n 0, 1) := by decide +kernel
theorem dX0_canSend_17 : decode cX0_canSend 17 = .ok (.iload_n 1, 1) := by decide +kernel
theorem dX0_canSend_18 : decode cX0_canSend 18 = .ok (.invokevirtual 72, 3) := by decide +kernel
theorem dX0_canSend_21 : decode cX0_canSend 21 = .ok (.aload_n 0, 1) := by decide +kernel
theorem dX0_canSend_22 : decode cX0_canSend 22 = .ok (.getfield 40, 3) := by decide +kernel
theorem dX0_canSend_25 : decode cX0_canSend 25 = .ok (.if_icmp .gt 7, 3) := by decide +kernel
theorem dX0_canSend_28 : decode cX0_canSend 28 = .ok (.iconst 1, 1) := by decide +kernel
theorem dX0_canSend_29 : decode cX0_canSend 29 = .ok (.goto 4, 3) := by decide +kernel
theorem dX0_canSend_32 : decode cX0_canSend 32 = .ok (.iconst 0, 1) := by decide +kernel
theorem dX0_canSend_33 : decode cX0_canSend 33 = .ok (.ireturn, 1) := by decide +kernel
set_option maxRecDepth 20000 in
theorem ggX0_sendUp_X0_costOf : GoodIn wsX0_sendUp wsX0_costOf := goodIn_r _ [10, 11, 32, 33, 34, 35, 36, 37, 38, 39, 40, 41, 42, 43] (by decide +kernel) (by decide +kernel)
set_option maxRecDepth 20000 in
theorem gX0_sendUp_X0_costOf : GoodIn wsX0_sendUp (wsV RX0 72 RX0 yX0_costOf wsX0_costOf) := goodIn_app (goodIn_of _ (by decide +kernel)) ggX0_sendUp_X0_costOf
set_option maxRecDepth 20000 in
theorem ggX0_sendUp_X0_throwAway : GoodIn wsX0_sendUp wsX0_throwAway := goodIn_r _ [15, 16, 32, 33, 34, 35, 36, 37, 38, 39, 40, 41, 42, 43] (by decide +kernel) (by decide +kernel)
set_option maxRecDepth 20000 in
theorem gX0_sendUp_X0_throwAway : GoodIn wsX0_sendUp (wsV RX0 75 RX0 yX0_throwAway wsX0_throwAway) := goodIn_app (goodIn_of _ (by decide +kernel)) ggX0_sendUp_X0_throwAway
set_option maxRecDepth 20000 in
theorem ggX0_sendUp_X0_readersOf : GoodIn wsX0_sendUp wsX0_readersOf := goodIn_r _ [20, 2, 21, 22, 23, 24, 9, 25, 11, 26, 27, 28, 29, 30, 31, 32, 33, 34, 35, 36, 37, 38, 39, 40, 41, 42, 43] (by decide +kernel) (by decide +kernel)
set_option maxRecDepth 20000 in
theorem gX0_sendUp_X0_readersOf : GoodIn wsX0_sendUp (wsV RX0 79 RX0 yX0_readersOf wsX0_readersOf) := goodIn_app (goodIn_of _ (by decide +kernel)) ggX0_sendUp_X0_readersOf
theorem dX0_sendUp_0 : decode cX0_sendUp 0 = .ok (.aload_n 0, 1) := by decide +kernel
theorem dX0_sendUp_1 : decode cX0_sendUp 1 = .ok (.dup, 1) := by decide +kernel
theorem dX0_sendUp_2 : decode cX0_sendUp 2 = .ok (.getfield 40, 3) := by decide +kernel
theorem dX0_sendUp_5 : decode cX0_sendUp 5 = .ok (.aload_n 0, 1) := by decide +kernel
theorem dX0_sendUp_6 : decode cX0_sendUp 6 = .ok (.iload_n 1, 1) := by decide +kernel
theorem dX0_sendUp_7 : decode cX0_sendUp 7 = .ok (.invokevirtual 72, 3) := by decide +kernel
theorem dX0_sendUp_10 : decode cX0_sendUp 10 = .ok (.isub, 1) := by decide +kernel
theorem dX0_sendUp_11 : decode cX0_sendUp 11 = .ok (.putfield 40, 3) := by decide +kernel
theorem dX0_sendUp_14 : decode cX0_sendUp 14 = .ok (.aload_n 0, 1) := by decide +kernel
theorem dX0_sendUp_15 : decode cX0_sendUp 15 = .ok (.iload_n 1, 1) := by decide +kernel
theorem dX0_sendUp_16 : decode cX0_sendUp 16 = .ok (.invokevirtual 75, 3) := by decide +kernel
theorem dX0_sendUp_19 : decode cX0_sendUp 19 = .ok (.aload_n 0, 1) := by decide +kernel
theorem dX0_sendUp_20 : decode cX0_sendUp 20 = .ok (.iload_n 1, 1) := by decide +kernel
theorem dX0_sendUp_21 : decode cX0_sendUp 21 = .ok (.invokevirtual 79, 3) := by decide +kernel
theorem dX0_sendUp_24 : decode cX0_sendUp 24 = .ok (.iload_n 2, 1) := by decide +kernel
theorem dX0_sendUp_25 : decode cX0_sendUp 25 = .ok (.iand, 1) := by decide +kernel
theorem dX0_sendUp_26 : decode cX0_sendUp 26 = .ok (.istore_n 3, 1) := by decide +kernel
theorem dX0_sendUp_27 : decode cX0_sendUp 27 = .ok (.iconst 0, 1) := by decide +kernel
theorem dX0_sendUp_28 : decode cX0_sendUp 28 = .ok (.istore 4, 2) := by decide +kernel
theorem dX0_sendUp_30 : decode cX0_sendUp 30 = .ok (.iload 4, 2) := by decide +kernel
theorem dX0_sendUp_32 : decode cX0_sendUp 32 = .ok (.aload_n 0, 1) := by decide +kernel
theorem dX0_sendUp_33 : decode cX0_sendUp 33 = .ok (.getfield 28, 3) := by decide +kernel
theorem dX0_sendUp_36 : decode cX0_sendUp 36 = .ok (.if_icmp .ge 80, 3) := by decide +kernel
theorem dX0_sendUp_39 : decode cX0_sendUp 39 = .ok (.iload 4, 2) := by decide +kernel
theorem dX0_sendUp_41 : decode cX0_sendUp 41 = .ok (.bipush 6, 2) := by decide +kernel
theorem dX0_sendUp_43 : decode cX0_sendUp 43 = .ok (.imul, 1) := by decide +kernel
theorem dX0_sendUp_44 : decode cX0_sendUp 44 = .ok (.aload_n 0, 1) := by decide +kernel
theorem dX0_sendUp_45 : decode cX0_sendUp 45 = .ok (.getfield 22, 3) := by decide +kernel
theorem dX0_sendUp_48 : decode cX0_sendUp 48 = .ok (.iload_n 1, 1) := by decide +kernel
theorem dX0_sendUp_49 : decode cX0_sendUp 49 = .ok (.iaload, 1) := by decide +kernel
theorem dX0_sendUp_50 : decode cX0_sendUp 50 = .ok (.iadd, 1) := by decide +kernel
theorem dX0_sendUp_51 : decode cX0_sendUp 51 = .ok (.istore 5, 2) := by decide +kernel
theorem dX0_sendUp_53 : decode cX0_sendUp 53 = .ok (.aload_n 0, 1) := by decide +kernel
theorem dX0_sendUp_54 : decode cX0_sendUp 54 = .ok (.getfield 34, 3) := by decide +kernel
theorem dX0_sendUp_57 : decode cX0_sendUp 57 = .ok (.iload 4, 2) := by decide +kernel
theorem dX0_sendUp_59 : decode cX0_sendUp 59 = .ok (.iaload, 1) := by decide +kernel
theorem dX0_sendUp_60 : decode cX0_sendUp 60 = .ok (.bipush 9, 2) := by decide +kernel
theorem dX0_sendUp_62 : decode cX0_sendUp 62 = .ok (.if_icmp .ne 8, 3) := by decide +kernel
theorem dX0_sendUp_65 : decode cX0_sendUp 65 = .ok (.bipush 99, 2) := by decide +kernel
theorem dX0_sendUp_67 : decode cX0_sendUp 67 = .ok (.goto 10, 3) := by decide +kernel
theorem dX0_sendUp_70 : decode cX0_sendUp 70 = .ok (.aload_n 0, 1) := by decide +kernel
theorem dX0_sendUp_71 : decode cX0_sendUp 71 = .ok (.getfield 34, 3) := by decide +kernel
theorem dX0_sendUp_74 : decode cX0_sendUp 74 = .ok (.iload 4, 2) := by decide +kernel
theorem dX0_sendUp_76 : decode cX0_sendUp 76 = .ok (.iaload, 1) := by decide +kernel
theorem dX0_sendUp_77 : decode cX0_sendUp 77 = .ok (.istore 6, 2) := by decide +kernel
theorem dX0_sendUp_79 : decode cX0_sendUp 79 = .ok (.iload_n 3, 1) := by decide +kernel
theorem dX0_sendUp_80 : decode cX0_sendUp 80 = .ok (.iload 4, 2) := by decide +kernel
theorem dX0_sendUp_82 : decode cX0_sendUp 82 = .ok (.ishr, 1) := by decide +kernel
theorem dX0_sendUp_83 : decode cX0_sendUp 83 = .ok (.iconst 1, 1) := by decide +kernel
theorem dX0_sendUp_84 : decode cX0_sendUp 84 = .ok (.iand, 1) := by decide +kernel
theorem dX0_sendUp_85 : decode cX0_sendUp 85 = .ok (.iconst 1, 1) := by decide +kernel
theorem dX0_sendUp_86 : decode cX0_sendUp 86 = .ok (.if_icmp .ne 24, 3) := by decide +kernel
theorem dX0_sendUp_89 : decode cX0_sendUp 89 = .ok (.iload 6, 2) := by decide +kernel
theorem dX0_sendUp_91 : decode cX0_sendUp 91 = .ok (.aload_n 0, 1) := by decide +kernel
theorem dX0_sendUp_92 : decode cX0_sendUp 92 = .ok (.getfield 37, 3) := by decide +kernel
theorem dX0_sendUp_95 : decode cX0_sendUp 95 = .ok (.iload 5, 2) := by decide +kernel
theorem dX0_sendUp_97 : decode cX0_sendUp 97 = .ok (.iaload, 1) := by decide +kernel
theorem dX0_sendUp_98 : decode cX0_sendUp 98 = .ok (.if_icmp .le 12, 3) := by decide +kernel
theorem dX0_sendUp_101 : decode cX0_sendUp 101 = .ok (.aload_n 0, 1) := by decide +kernel
theorem dX0_sendUp_102 : decode cX0_sendUp 102 = .ok (.getfield 37, 3) := by decide +kernel
theorem dX0_sendUp_105 : decode cX0_sendUp 105 = .ok (.iload 5, 2) := by decide +kernel
theorem dX0_sendUp_107 : decode cX0_sendUp 107 = .ok (.iload 6, 2) := by decide +kernel
theorem dX0_sendUp_109 : decode cX0_sendUp 109 = .ok (.iastore, 1) := by decide +kernel
theorem dX0_sendUp_110 : decode cX0_sendUp 110 = .ok (.iinc 4 1, 3) := by decide +kernel
theorem dX0_sendUp_113 : decode cX0_sendUp 113 = .ok (.goto (-83), 3) := by decide +kernel
theorem dX0_sendUp_116 : decode cX0_sendUp 116 = .ok (.return_, 1) := by decide +kernel
theorem dX0_throwAway_0 : decode cX0_throwAway 0 = .ok (.aload_n 0, 1) := by decide +kernel
theorem dX0_throwAway_1 : decode cX0_throwAway 1 = .ok (.dup, 1) := by decide +kernel
theorem dX0_throwAway_2 : decode cX0_throwAway 2 = .ok (.getfield 25, 3) := by decide +kernel
theorem dX0_throwAway_5 : decode cX0_throwAway 5 = .ok (.iconst 1, 1) := by decide +kernel
theorem dX0_throwAway_6 : decode cX0_throwAway 6 = .ok (.iload_n 1, 1) := by decide +kernel
theorem dX0_throwAway_7 : decode cX0_throwAway 7 = .ok (.ishl, 1) := by decide +kernel
theorem dX0_throwAway_8 : decode cX0_throwAway 8 = .ok (.ior, 1) := by decide +kernel
theorem dX0_throwAway_9 : decode cX0_throwAway 9 = .ok (.putfield 25, 3) := by decide +kernel
theorem dX0_throwAway_12 : decode cX0_throwAway 12 = .ok (.return_, 1) := by decide +kernel
theorem dX0_putBack_0 : decode cX0_putBack 0 = .ok (.aload_n 0, 1) := by decide +kernel
theorem dX0_putBack_1 : decode cX0_putBack 1 = .ok (.dup, 1) := by decide +kernel
theorem dX0_putBack_2 : decode cX0_putBack 2 = .ok (.getfield 25, 3) := by decide +kernel
theorem dX0_putBack_5 : decode cX0_putBack 5 = .ok (.iconst 1, 1) := by decide +kernel
theorem dX0_putBack_6 : decode cX0_putBack 6 = .ok (.iload_n 1, 1) := by decide +kernel
theorem dX0_putBack_7 : decode cX0_putBack 7 = .ok (.ishl, 1) := by decide +kernel
theorem dX0_putBack_8 : decode cX0_putBack 8 = .ok (.iconst (-1), 1) := by decide +kernel
theorem dX0_putBack_9 : decode cX0_putBack 9 = .ok (.ixor, 1) := by decide +kernel
theorem dX0_putBack_10 : decode cX0_putBack 10 = .ok (.iand, 1) := by decide +kernel
theorem dX0_putBack_11 : decode cX0_putBack 11 = .ok (.putfield 25, 3) := by decide +kernel
theorem dX0_putBack_14 : decode cX0_putBack 14 = .ok (.return_, 1) := by decide +kernel
set_option maxRecDepth 20000 in
theorem ggX0_upNext_X0_canSend : GoodIn wsX0_upNext wsX0_canSend := goodIn_r _ [6, 7, 8, 9, 10, 5, 11, 1, 12, 13, 14, 15, 16, 17, 18, 19, 20, 21, 22, 23, 24, 25, 26, 27, 28, 29, 30, 31, 32, 33] (by decide +kernel) (by decide +kernel)
set_option maxRecDepth 20000 in
theorem gX0_upNext_X0_canSend : GoodIn wsX0_upNext (wsV RX0 82 RX0 yX0_canSend wsX0_canSend) := goodIn_app (goodIn_of _ (by decide +kernel)) ggX0_upNext_X0_canSend
theorem dX0_upNext_0 : decode cX0_upNext 0 = .ok (.iconst 0, 1) := by decide +kernel
theorem dX0_upNext_1 : decode cX0_upNext 1 = .ok (.istore_n 1, 1) := by decide +kernel
theorem dX0_upNext_2 : decode cX0_upNext 2 = .ok (.iload_n 1, 1) := by decide +kernel
theorem dX0_upNext_3 : decode cX0_upNext 3 = .ok (.aload_n 0, 1) := by decide +kernel
theorem dX0_upNext_4 : decode cX0_upNext 4 = .ok (.getfield 9, 3) := by decide +kernel
theorem dX0_upNext_7 : decode cX0_upNext 7 = .ok (.if_icmp .ge 19, 3) := by decide +kernel
theorem dX0_upNext_10 : decode cX0_upNext 10 = .ok (.aload_n 0, 1) := by decide +kernel
theorem dX0_upNext_11 : decode cX0_upNext 11 = .ok (.iload_n 1, 1) := by decide +kernel
theorem dX0_upNext_12 : decode cX0_upNext 12 = .ok (.invokevirtual 82, 3) := by decide +kernel
theorem dX0_upNext_15 : decode cX0_upNext 15 = .ok (.ifCond .eq 5, 3) := by decide +kernel
theorem dX0_upNext_18 : decode cX0_upNext 18 = .ok (.iload_n 1, 1) := by decide +kernel
theorem dX0_upNext_19 : decode cX0_upNext 19 = .ok (.ireturn, 1) := by decide +kernel
theorem dX0_upNext_20 : decode cX0_upNext 20 = .ok (.iinc 1 1, 3) := by decide +kernel
theorem dX0_upNext_23 : decode cX0_upNext 23 = .ok (.goto (-21), 3) := by decide +kernel
theorem dX0_upNext_26 : decode cX0_upNext 26 = .ok (.bipush (-9), 2) := by decide +kernel
theorem dX0_upNext_28 : decode cX0_upNext 28 = .ok (.ireturn, 1) := by decide +kernel
set_option maxRecDepth 20000 in
theorem ggX0_passNights_X0_forget : GoodIn wsX0_passNights wsX0_forget := goodIn_r _ [6, 7, 8, 58, 59, 60, 61, 62, 63, 64, 65, 66, 67, 68, 69] (by decide +kernel) (by decide +kernel)
set_option maxRecDepth 20000 in
theorem gX0_passNights_X0_forget : GoodIn wsX0_passNights (wsV RX0 85 RX0 yX0_forget wsX0_forget) := goodIn_app (goodIn_of _ (by decide +kernel)) ggX0_passNights_X0_forget
set_option maxRecDepth 20000 in
theorem ggX0_passNights_X0_upNext : GoodIn wsX0_passNights wsX0_upNext := goodIn_r _ [12, 13, 14, 15, 16, 5, 17, 18, 19, 20, 21, 22, 23, 24, 25, 26, 27, 28, 29, 30, 31, 32, 58, 59, 60, 61, 62, 63, 64, 65, 66, 67, 68, 69] (by decide +kernel) (by decide +kernel)
set_option maxRecDepth 20000 in
theorem gX0_passNights_X0_upNext : GoodIn wsX0_passNights (wsV RX0 88 RX0 yX0_upNext wsX0_upNext) := goodIn_app (goodIn_of _ (by decide +kernel)) ggX0_passNights_X0_upNext
set_option maxRecDepth 20000 in
theorem ggX0_passNights_X0_sendUp : GoodIn wsX0_passNights wsX0_sendUp := goodIn_r _ [36, 18, 7, 37, 38, 8, 28, 29, 30, 5, 31, 32, 39, 40, 41, 42, 27, 43, 44, 45, 46, 47, 48, 49, 50, 51, 52, 53, 54, 55, 56, 57, 58, 59, 60, 61, 62, 63, 64, 65, 66, 67, 68, 69] (by decide +kernel) (by decide +kernel)
set_option maxRecDepth 20000 in
theorem gX0_passNights_X0_sendUp : GoodIn wsX0_passNights (wsV RX0 92 RX0 yX0_sendUp wsX0_sendUp) := goodIn_app (goodIn_of _ (by decide +kernel)) ggX0_passNights_X0_sendUp
theorem dX0_passNights_0 : decode cX0_passNights 0 = .ok (.iconst 0, 1) := by decide +kernel
theorem dX0_passNights_1 : decode cX0_passNights 1 = .ok (.istore_n 3, 1) := by decide +kernel
theorem dX0_passNights_2 : decode cX0_passNights 2 = .ok (.iload_n 3, 1) := by decide +kernel
theorem dX0_passNights_3 : decode cX0_passNights 3 = .ok (.iload_n 1, 1) := by decide +kernel
theorem dX0_passNights_4 : decode cX0_passNights 4 = .ok (.if_icmp .ge 43, 3) := by decide +kernel
theorem dX0_passNights_7 : decode cX0_passNights 7 = .ok (.aload_n 0, 1) := by decide +kernel
theorem dX0_passNights_8 : decode cX0_passNights 8 = .ok (.dup, 1) := by decide +kernel
theorem dX0_passNights_9 : decode cX0_passNights 9 = .ok (.getfield 46, 3) := by decide +kernel
theorem dX0_passNights_12 : decode cX0_passNights 12 = .ok (.iconst 1, 1) := by decide +kernel
theorem dX0_passNights_13 : decode cX0_passNights 13 = .ok (.iadd, 1) := by decide +kernel
theorem dX0_passNights_14 : decode cX0_passNights 14 = .ok (.putfield 46, 3) := by decide +kernel
theorem dX0_passNights_17 : decode cX0_passNights 17 = .ok (.aload_n 0, 1) := by decide +kernel
theorem dX0_passNights_18 : decode cX0_passNights 18 = .ok (.invokevirtual 85, 3) := by decide +kernel
theorem dX0_passNights_21 : decode cX0_passNights 21 = .ok (.aload_n 0, 1) := by decide +kernel
theorem dX0_passNights_22 : decode cX0_passNights 22 = .ok (.invokevirtual 88, 3) := by decide +kernel
theorem dX0_passNights_25 : decode cX0_passNights 25 = .ok (.istore 4, 2) := by decide +kernel
theorem dX0_passNights_27 : decode cX0_passNights 27 = .ok (.iload 4, 2) := by decide +kernel
theorem dX0_passNights_29 : decode cX0_passNights 29 = .ok (.bipush (-9), 2) := by decide +kernel
theorem dX0_passNights_31 : decode cX0_passNights 31 = .ok (.if_icmp .eq 10, 3) := by decide +kernel
theorem dX0_passNights_34 : decode cX0_passNights 34 = .ok (.aload_n 0, 1) := by decide +kernel
theorem dX0_passNights_35 : decode cX0_passNights 35 = .ok (.iload 4, 2) := by decide +kernel
theorem dX0_passNights_37 : decode cX0_passNights 37 = .ok (.iload_n 2, 1) := by decide +kernel
theorem dX0_passNights_38 : decode cX0_passNights 38 = .ok (.invokevirtual 92, 3) := by decide +kernel
theorem dX0_passNights_41 : decode cX0_passNights 41 = .ok (.iinc 3 1, 3) := by decide +kernel
theorem dX0_passNights_44 : decode cX0_passNights 44 = .ok (.goto (-42), 3) := by decide +kernel
theorem dX0_passNights_47 : decode cX0_passNights 47 = .ok (.return_, 1) := by decide +kernel
theorem dX0_forget_0 : decode cX0_forget 0 = .ok (.iconst 0, 1) := by decide +kernel
theorem dX0_forget_1 : decode cX0_forget 1 = .ok (.istore_n 1, 1) := by decide +kernel
theorem dX0_forget_2 : decode cX0_forget 2 = .ok (.iload_n 1, 1) := by decide +kernel
theorem dX0_forget_3 : decode cX0_forget 3 = .ok (.aload_n 0, 1) := by decide +kernel
theorem dX0_forget_4 : decode cX0_forget 4 = .ok (.getfield 28, 3) := by decide +kernel
theorem dX0_forget_7 : decode cX0_forget 7 = .ok (.bipush 6, 2) := by decide +kernel
theorem dX0_forget_9 : decode cX0_forget 9 = .ok (.imul, 1) := by decide +kernel
theorem dX0_forget_10 : decode cX0_forget 10 = .ok (.if_icmp .ge 39, 3) := by decide +kernel
theorem dX0_forget_13 : decode cX0_forget 13 = .ok (.aload_n 0, 1) := by decide +kernel
theorem dX0_forget_14 : decode cX0_forget 14 = .ok (.getfield 37, 3) := by decide +kernel
theorem dX0_forget_17 : decode cX0_forget 17 = .ok (.iload_n 1, 1) := by decide +kernel
theorem dX0_forget_18 : decode cX0_forget 18 = .ok (.iaload, 1) := by decide +kernel
theorem dX0_forget_19 : decode cX0_forget 19 = .ok (.ifCond .le 24, 3) := by decide +kernel
theorem dX0_forget_22 : decode cX0_forget 22 = .ok (.aload_n 0, 1) := by decide +kernel
theorem dX0_forget_23 : decode cX0_forget 23 = .ok (.getfield 37, 3) := by decide +kernel
theorem dX0_forget_26 : decode cX0_forget 26 = .ok (.iload_n 1, 1) := by decide +kernel
theorem dX0_forget_27 : decode cX0_forget 27 = .ok (.iaload, 1) := by decide +kernel
theorem dX0_forget_28 : decode cX0_forget 28 = .ok (.bipush 99, 2) := by decide +kernel
theorem dX0_forget_30 : decode cX0_forget 30 = .ok (.if_icmp .eq 13, 3) := by decide +kernel
theorem dX0_forget_33 : decode cX0_forget 33 = .ok (.aload_n 0, 1) := by decide +kernel
theorem dX0_forget_34 : decode cX0_forget 34 = .ok (.getfield 37, 3) := by decide +kernel
theorem dX0_forget_37 : decode cX0_forget 37 = .ok (.iload_n 1, 1) := by decide +kernel
theorem dX0_forget_38 : decode cX0_forget 38 = .ok (.dup2, 1) := by decide +kernel
theorem dX0_forget_39 : decode cX0_forget 39 = .ok (.iaload, 1) := by decide +kernel
theorem dX0_forget_40 : decode cX0_forget 40 = .ok (.iconst 1, 1) := by decide +kernel
theorem dX0_forget_41 : decode cX0_forget 41 = .ok (.isub, 1) := by decide +kernel
theorem dX0_forget_42 : decode cX0_forget 42 = .ok (.iastore, 1) := by decide +kernel
theorem dX0_forget_43 : decode cX0_forget 43 = .ok (.iinc 1 1, 3) := by decide +kernel
theorem dX0_forget_46 : decode cX0_forget 46 = .ok (.goto (-44), 3) := by decide +kernel
theorem dX0_forget_49 : decode cX0_forget 49 = .ok (.return_, 1) := by decide +kernel
theorem dX0_wordsOf_0 : decode cX0_wordsOf 0 = .ok (.iconst 0, 1) := by decide +kernel
theorem dX0_wordsOf_1 : decode cX0_wordsOf 1 = .ok (.istore_n 2, 1) := by decide +kernel
theorem dX0_wordsOf_2 : decode cX0_wordsOf 2 = .ok (.iconst 0, 1) := by decide +kernel
theorem dX0_wordsOf_3 : decode cX0_wordsOf 3 = .ok (.istore_n 3, 1) := by decide +kernel
theorem dX0_wordsOf_4 : decode cX0_wordsOf 4 = .ok (.iload_n 3, 1) := by decide +kernel
theorem dX0_wordsOf_5 : decode cX0_wordsOf 5 = .ok (.bipush 6, 2) := by decide +kernel
theorem dX0_wordsOf_7 : decode cX0_wordsOf 7 = .ok (.if_icmp .ge 29, 3) := by decide +kernel
theorem dX0_wordsOf_10 : decode cX0_wordsOf 10 = .ok (.aload_n 0, 1) := by decide +kernel
theorem dX0_wordsOf_11 : decode cX0_wordsOf 11 = .ok (.getfield 37, 3) := by decide +kernel
theorem dX0_wordsOf_14 : decode cX0_wordsOf 14 = .ok (.iload_n 1, 1) := by decide +kernel
theorem dX0_wordsOf_15 : decode cX0_wordsOf 15 = .ok (.bipush 6, 2) := by decide +kernel
theorem dX0_wordsOf_17 : decode cX0_wordsOf 17 = .ok (.imul, 1) := by decide +kernel
theorem dX0_wordsOf_18 : decode cX0_wordsOf 18 = .ok (.iload_n 3, 1) := by decide +kernel
theorem dX0_wordsOf_19 : decode cX0_wordsOf 19 = .ok (.iadd, 1) := by decide +kernel
theorem dX0_wordsOf_20 : decode cX0_wordsOf 20 = .ok (.iaload, 1) := by decide +kernel
theorem dX0_wordsOf_21 : decode cX0_wordsOf 21 = .ok (.ifCond .le 9, 3) := by decide +kernel
theorem dX0_wordsOf_24 : decode cX0_wordsOf 24 = .ok (.iload_n 2, 1) := by decide +kernel
theorem dX0_wordsOf_25 : decode cX0_wordsOf 25 = .ok (.iconst 1, 1) := by decide +kernel
theorem dX0_wordsOf_26 : decode cX0_wordsOf 26 = .ok (.iload_n 3, 1) := by decide +kernel
theorem dX0_wordsOf_27 : decode cX0_wordsOf 27 = .ok (.ishl, 1) := by decide +kernel
theorem dX0_wordsOf_28 : decode cX0_wordsOf 28 = .ok (.ior, 1) := by decide +kernel
theorem dX0_wordsOf_29 : decode cX0_wordsOf 29 = .ok (.istore_n 2, 1) := by decide +kernel
theorem dX0_wordsOf_30 : decode cX0_wordsOf 30 = .ok (.iinc 3 1, 3) := by decide +kernel
theorem dX0_wordsOf_33 : decode cX0_wordsOf 33 = .ok (.goto (-29), 3) := by decide +kernel
theorem dX0_wordsOf_36 : decode cX0_wordsOf 36 = .ok (.iload_n 2, 1) := by decide +kernel
theorem dX0_wordsOf_37 : decode cX0_wordsOf 37 = .ok (.ireturn, 1) := by decide +kernel
set_option maxRecDepth 20000 in
theorem ggX0_isWhole_X0_wordsOf : GoodIn wsX0_isWhole wsX0_wordsOf := goodIn_r _ [5, 6, 7, 8, 9, 10, 11, 12, 13, 14, 15, 16, 17, 18] (by decide +kernel) (by decide +kernel)
set_option maxRecDepth 20000 in
theorem gX0_isWhole_X0_wordsOf : GoodIn wsX0_isWhole (wsV RX0 96 RX0 yX0_wordsOf wsX0_wordsOf) := goodIn_app (goodIn_of _ (by decide +kernel)) ggX0_isWhole_X0_wordsOf
theorem dX0_isWhole_0 : decode cX0_isWhole 0 = .ok (.aload_n 0, 1) := by decide +kernel
theorem dX0_isWhole_1 : decode cX0_isWhole 1 = .ok (.iload_n 1, 1) := by decide +kernel
theorem dX0_isWhole_2 : decode cX0_isWhole 2 = .ok (.invokevirtual 96, 3) := by decide +kernel
theorem dX0_isWhole_5 : decode cX0_isWhole 5 = .ok (.bipush 63, 2) := by decide +kernel
theorem dX0_isWhole_7 : decode cX0_isWhole 7 = .ok (.if_icmp .ne 7, 3) := by decide +kernel
theorem dX0_isWhole_10 : decode cX0_isWhole 10 = .ok (.iconst 1, 1) := by decide +kernel
theorem dX0_isWhole_11 : decode cX0_isWhole 11 = .ok (.goto 4, 3) := by decide +kernel
theorem dX0_isWhole_14 : decode cX0_isWhole 14 = .ok (.iconst 0, 1) := by decide +kernel
theorem dX0_isWhole_15 : decode cX0_isWhole 15 = .ok (.ireturn, 1) := by decide +kernel
set_option maxRecDepth 20000 in
theorem ggX0_countWhole_X0_isWhole : GoodIn wsX0_countWhole wsX0_isWhole := goodIn_r _ [6, 7, 8, 9, 5, 10, 11, 12, 13, 14, 15, 16, 17, 18, 19, 20, 21, 22, 23] (by decide +kernel) (by decide +kernel)
set_option maxRecDepth 20000 in
theorem gX0_countWhole_X0_isWhole : GoodIn wsX0_countWhole (wsV RX0 99 RX0 yX0_isWhole wsX0_isWhole) := goodIn_app (goodIn_of _ (by decide +kernel)) ggX0_countWhole_X0_isWhole
theorem dX0_countWhole_0 : decode cX0_countWhole 0 = .ok (.iconst 0, 1) := by decide +kernel
theorem dX0_countWhole_1 : decode cX0_countWhole 1 = .ok (.istore_n 1, 1) := by decide +kernel
theorem dX0_countWhole_2 : decode cX0_countWhole 2 = .ok (.iconst 0, 1) := by decide +kernel
theorem dX0_countWhole_3 : decode cX0_countWhole 3 = .ok (.istore_n 2, 1) := by decide +kernel
theorem dX0_countWhole_4 : decode cX0_countWhole 4 = .ok (.iload_n 2, 1) := by decide +kernel
theorem dX0_countWhole_5 : decode cX0_countWhole 5 = .ok (.aload_n 0, 1) := by decide +kernel
theorem dX0_countWhole_6 : decode cX0_countWhole 6 = .ok (.getfield 28, 3) := by decide +kernel
theorem dX0_countWhole_9 : decode cX0_countWhole 9 = .ok (.if_icmp .ge 25, 3) := by decide +kernel
theorem dX0_countWhole_12 : decode cX0_countWhole 12 = .ok (.iload_n 1, 1) := by decide +kernel
theorem dX0_countWhole_13 : decode cX0_countWhole 13 = .ok (.aload_n 0, 1) := by decide +kernel
theorem dX0_countWhole_14 : decode cX0_countWhole 14 = .ok (.iload_n 2, 1) := by decide +kernel
theorem dX0_countWhole_15 : decode cX0_countWhole 15 = .ok (.invokevirtual 99, 3) := by decide +kernel
theorem dX0_countWhole_18 : decode cX0_countWhole 18 = .ok (.ifCond .eq 7, 3) := by decide +kernel
theorem dX0_countWhole_21 : decode cX0_countWhole 21 = .ok (.iconst 1, 1) := by decide +kernel
theorem dX0_countWhole_22 : decode cX0_countWhole 22 = .ok (.goto 4, 3) := by decide +kernel
theorem dX0_countWhole_25 : decode cX0_countWhole 25 = .ok (.iconst 0, 1) := by decide +kernel
theorem dX0_countWhole_26 : decode cX0_countWhole 26 = .ok (.iadd, 1) := by decide +kernel
theorem dX0_countWhole_27 : decode cX0_countWhole 27 = .ok (.istore_n 1, 1) := by decide +kernel
theorem dX0_countWhole_28 : decode cX0_countWhole 28 = .ok (.iinc 2 1, 3) := by decide +kernel
theorem dX0_countWhole_31 : decode cX0_countWhole 31 = .ok (.goto (-27), 3) := by decide +kernel
theorem dX0_countWhole_34 : decode cX0_countWhole 34 = .ok (.iload_n 1, 1) := by decide +kernel
theorem dX0_countWhole_35 : decode cX0_countWhole 35 = .ok (.ireturn, 1) := by decide +kernel
set_option maxRecDepth 20000 in
theorem ggX0_countWords_X0_wordsOf : GoodIn wsX0_countWords wsX0_wordsOf := goodIn_r _ [6, 7, 15, 16, 17, 18, 19, 20, 21, 22, 23, 24, 25, 26] (by decide +kernel) (by decide +kernel)
set_option maxRecDepth 20000 in
theorem gX0_countWords_X0_wordsOf : GoodIn wsX0_countWords (wsV RX0 96 RX0 yX0_wordsOf wsX0_wordsOf) := goodIn_app (goodIn_of _ (by decide +kernel)) ggX0_countWords_X0_wordsOf
set_option maxRecDepth 20000 in
theorem ggX0_countWords_J6_bitCount_0f7a4 : GoodIn wsX0_countWords wsJ6_bitCount_0f7a4 := goodIn_r _ [11, 12, 13, 14] (by decide +kernel) (by decide +kernel)
set_option maxRecDepth 20000 in
theorem gX0_countWords_J6_bitCount_0f7a4 : GoodIn wsX0_countWords (va_wsS RX0 102 yJ6_bitCount_0f7a4 wsJ6_bitCount_0f7a4) := goodIn_app (goodIn_of _ (by decide +kernel)) ggX0_countWords_J6_bitCount_0f7a4
theorem dX0_countWords_0 : decode cX0_countWords 0 = .ok (.iconst 0, 1) := by decide +kernel
theorem dX0_countWords_1 : decode cX0_countWords 1 = .ok (.istore_n 1, 1) := by decide +kernel
theorem dX0_countWords_2 : decode cX0_countWords 2 = .ok (.iconst 0, 1) := by decide +kernel
theorem dX0_countWords_3 : decode cX0_countWords 3 = .ok (.istore_n 2, 1) := by decide +kernel
theorem dX0_countWords_4 : decode cX0_countWords 4 = .ok (.iload_n 2, 1) := by decide +kernel
theorem dX0_countWords_5 : decode cX0_countWords 5 = .ok (.aload_n 0, 1) := by decide +kernel
theorem dX0_countWords_6 : decode cX0_countWords 6 = .ok (.getfield 28, 3) := by decide +kernel
theorem dX0_countWords_9 : decode cX0_countWords 9 = .ok (.if_icmp .ge 20, 3) := by decide +kernel
theorem dX0_countWords_12 : decode cX0_countWords 12 = .ok (.iload_n 1, 1) := by decide +kernel
theorem dX0_countWords_13 : decode cX0_countWords 13 = .ok (.aload_n 0, 1) := by decide +kernel
theorem dX0_countWords_14 : decode cX0_countWords 14 = .ok (.iload_n 2, 1) := by decide +kernel
theorem dX0_countWords_15 : decode cX0_countWords 15 = .ok (.invokevirtual 96, 3) := by decide +kernel
theorem dX0_countWords_18 : decode cX0_countWords 18 = .ok (.invokestatic 102, 3) := by decide +kernel
theorem dX0_countWords_21 : decode cX0_countWords 21 = .ok (.iadd, 1) := by decide +kernel
theorem dX0_countWords_22 : decode cX0_countWords 22 = .ok (.istore_n 1, 1) := by decide +kernel
theorem dX0_countWords_23 : decode cX0_countWords 23 = .ok (.iinc 2 1, 3) := by decide +kernel
theorem dX0_countWords_26 : decode cX0_countWords 26 = .ok (.goto (-22), 3) := by decide +kernel
theorem dX0_countWords_29 : decode cX0_countWords 29 = .ok (.iload_n 1, 1) := by decide +kernel
theorem dX0_countWords_30 : decode cX0_countWords 30 = .ok (.ireturn, 1) := by decide +kernel
set_option maxRecDepth 20000 in
theorem ggX1_init_X0_init : GoodIn wsX1_init wsX0_init := goodIn_r _ [21, 22, 2, 3, 23, 11, 24, 25, 26, 27, 28, 29, 30, 31, 32, 33, 34, 35, 36, 37, 38, 39, 40, 41, 42, 43, 44, 45, 46] (by decide +kernel) (by decide +kernel)
set_option maxRecDepth 20000 in
theorem gX1_init_X0_init_n9 : GoodIn wsX1_init (wsX0_init) := ggX1_init_X0_init
theorem dX1_init_0 : decode cX1_init 0 = .ok (.aload_n 0, 1) := by decide +kernel
theorem dX1_init_1 : decode cX1_init 1 = .ok (.invokespecial 1, 3) := by decide +kernel
theorem dX1_init_4 : decode cX1_init 4 = .ok (.aload_n 0, 1) := by decide +kernel
theorem dX1_init_5 : decode cX1_init 5 = .ok (.new 7, 3) := by decide +kernel
theorem dX1_init_8 : decode cX1_init 8 = .ok (.dup, 1) := by decide +kernel
theorem dX1_init_9 : decode cX1_init 9 = .ok (.invokespecial 9, 3) := by decide +kernel
theorem dX1_init_12 : decode cX1_init 12 = .ok (.putfield 10, 3) := by decide +kernel
theorem dX1_init_15 : decode cX1_init 15 = .ok (.aload_n 0, 1) := by decide +kernel
theorem dX1_init_16 : decode cX1_init 16 = .ok (.new 7, 3) := by decide +kernel
theorem dX1_init_19 : decode cX1_init 19 = .ok (.dup, 1) := by decide +kernel
theorem dX1_init_20 : decode cX1_init 20 = .ok (.invokespecial 9, 3) := by decide +kernel
theorem dX1_init_23 : decode cX1_init 23 = .ok (.putfield 16, 3) := by decide +kernel
theorem dX1_init_26 : decode cX1_init 26 = .ok (.aload_n 0, 1) := by decide +kernel
theorem dX1_init_27 : decode cX1_init 27 = .ok (.new 7, 3) := by decide +kernel
theorem dX1_init_30 : decode cX1_init 30 = .ok (.dup, 1) := by decide +kernel
theorem dX1_init_31 : decode cX1_init 31 = .ok (.invokespecial 9, 3) := by decide +kernel
theorem dX1_init_34 : decode cX1_init 34 = .ok (.putfield 19, 3) := by decide +kernel
theorem dX1_init_37 : decode cX1_init 37 = .ok (.aload_n 0, 1) := by decide +kernel
theorem dX1_init_38 : decode cX1_init 38 = .ok (.iconst 0, 1) := by decide +kernel
theorem dX1_init_39 : decode cX1_init 39 = .ok (.putfield 22, 3) := by decide +kernel
theorem dX1_init_42 : decode cX1_init 42 = .ok (.aload_n 0, 1) := by decide +kernel
theorem dX1_init_43 : decode cX1_init 43 = .ok (.bipush 96, 2) := by decide +kernel
theorem dX1_init_45 : decode cX1_init 45 = .ok (.newarray .int, 2) := by decide +kernel
theorem dX1_init_47 : decode cX1_init 47 = .ok (.putfield 26, 3) := by decide +kernel
theorem dX1_init_50 : decode cX1_init 50 = .ok (.aload_n 0, 1) := by decide +kernel
theorem dX1_init_51 : decode cX1_init 51 = .ok (.iconst 0, 1) := by decide +kernel
theorem dX1_init_52 : decode cX1_init 52 = .ok (.putfield 30, 3) := by decide +kernel
theorem dX1_init_55 : decode cX1_init 55 = .ok (.aload_n 0, 1) := by decide +kernel
theorem dX1_init_56 : decode cX1_init 56 = .ok (.bipush 16, 2) := by decide +kernel
theorem dX1_init_58 : decode cX1_init 58 = .ok (.newarray .int, 2) := by decide +kernel
theorem dX1_init_60 : decode cX1_init 60 = .ok (.putfield 34, 3) := by decide +kernel
theorem dX1_init_63 : decode cX1_init 63 = .ok (.aload_n 0, 1) := by decide +kernel
theorem dX1_init_64 : decode cX1_init 64 = .ok (.iconst 0, 1) := by decide +kernel
theorem dX1_init_65 : decode cX1_init 65 = .ok (.putfield 37, 3) := by decide +kernel
theorem dX1_init_68 : decode cX1_init 68 = .ok (.aload_n 0, 1) := by decide +kernel
theorem dX1_init_69 : decode cX1_init 69 = .ok (.bipush 7, 2) := by decide +kernel
theorem dX1_init_71 : decode cX1_init 71 = .ok (.newarray .int, 2) := by decide +kernel
theorem dX1_init_73 : decode cX1_init 73 = .ok (.putfield 40, 3) := by decide +kernel
theorem dX1_init_76 : decode cX1_init 76 = .ok (.aload_n 0, 1) := by decide +kernel
theorem dX1_init_77 : decode cX1_init 77 = .ok (.bipush 9, 2) := by decide +kernel
theorem dX1_init_79 : decode cX1_init 79 = .ok (.newarray .int, 2) := by decide +kernel
theorem dX1_init_81 : decode cX1_init 81 = .ok (.putfield 43, 3) := by decide +kernel
theorem dX1_init_84 : decode cX1_init 84 = .ok (.aload_n 0, 1) := by decide +kernel
theorem dX1_init_85 : decode cX1_init 85 = .ok (.iconst 4, 1) := by decide +kernel
theorem dX1_init_86 : decode cX1_init 86 = .ok (.newarray .int, 2) := by decide +kernel
theorem dX1_init_88 : decode cX1_init 88 = .ok (.putfield 46, 3) := by decide +kernel
theorem dX1_init_91 : decode cX1_init 91 = .ok (.aload_n 0, 1) := by decide +kernel
theorem dX1_init_92 : decode cX1_init 92 = .ok (.iconst 4, 1) := by decide +kernel
theorem dX1_init_93 : decode cX1_init 93 = .ok (.newarray .int, 2) := by decide +kernel
theorem dX1_init_95 : decode cX1_init 95 = .ok (.putfield 49, 3) := by decide +kernel
theorem dX1_init_98 : decode cX1_init 98 = .ok (.return_, 1) := by decide +kernel
set_option maxRecDepth 20000 in
theorem ggX1_letter_X1_refuse : GoodIn wsX1_letter wsX1_refuse := goodIn_r _ [7, 8, 9, 10, 11, 12, 13, 14, 15, 16, 17, 18, 19, 20] (by decide +kernel) (by decide +kernel)
set_option maxRecDepth 20000 in
theorem gX1_letter_X1_refuse : GoodIn wsX1_letter (wsV RX1 52 RX1 yX1_refuse wsX1_refuse) := goodIn_app (goodIn_of _ (by decide +kernel)) ggX1_letter_X1_refuse
theorem dX1_letter_0 : decode cX1_letter 0 = .ok (.iload_n 1, 1) := by decide +kernel
theorem dX1_letter_1 : decode cX1_letter 1 = .ok (.ifCond .ge 10, 3) := by decide +kernel
theorem dX1_letter_4 : decode cX1_letter 4 = .ok (.aload_n 0, 1) := by decide +kernel
theorem dX1_letter_5 : decode cX1_letter 5 = .ok (.bipush (-4), 2) := by decide +kernel
theorem dX1_letter_7 : decode cX1_letter 7 = .ok (.invokevirtual 52, 3) := by decide +kernel
theorem dX1_letter_10 : decode cX1_letter 10 = .ok (.ireturn, 1) := by decide +kernel
theorem dX1_letter_11 : decode cX1_letter 11 = .ok (.iload_n 1, 1) := by decide +kernel
theorem dX1_letter_12 : decode cX1_letter 12 = .ok (.sipush 255, 3) := by decide +kernel
theorem dX1_letter_15 : decode cX1_letter 15 = .ok (.if_icmp .gt 12, 3) := by decide +kernel
theorem dX1_letter_18 : decode cX1_letter 18 = .ok (.aload_n 0, 1) := by decide +kernel
theorem dX1_letter_19 : decode cX1_letter 19 = .ok (.getfield 30, 3) := by decide +kernel
theorem dX1_letter_22 : decode cX1_letter 22 = .ok (.bipush 96, 2) := by decide +kernel
theorem dX1_letter_24 : decode cX1_letter 24 = .ok (.if_icmp .lt 10, 3) := by decide +kernel
theorem dX1_letter_27 : decode cX1_letter 27 = .ok (.aload_n 0, 1) := by decide +kernel
theorem dX1_letter_28 : decode cX1_letter 28 = .ok (.bipush (-6), 2) := by decide +kernel
theorem dX1_letter_30 : decode cX1_letter 30 = .ok (.invokevirtual 52, 3) := by decide +kernel
theorem dX1_letter_33 : decode cX1_letter 33 = .ok (.ireturn, 1) := by decide +kernel
theorem dX1_letter_34 : decode cX1_letter 34 = .ok (.aload_n 0, 1) := by decide +kernel
theorem dX1_letter_35 : decode cX1_letter 35 = .ok (.getfield 26, 3) := by decide +kernel
theorem dX1_letter_38 : decode cX1_letter 38 = .ok (.aload_n 0, 1) := by decide +kernel
theorem dX1_letter_39 : decode cX1_letter 39 = .ok (.getfield 30, 3) := by decide +kernel
theorem dX1_letter_42 : decode cX1_letter 42 = .ok (.iload_n 1, 1) := by decide +kernel
theorem dX1_letter_43 : decode cX1_letter 43 = .ok (.iastore, 1) := by decide +kernel
theorem dX1_letter_44 : decode cX1_letter 44 = .ok (.aload_n 0, 1) := by decide +kernel
theorem dX1_letter_45 : decode cX1_letter 45 = .ok (.dup, 1) := by decide +kernel
theorem dX1_letter_46 : decode cX1_letter 46 = .ok (.getfield 30, 3) := by decide +kernel
theorem dX1_letter_49 : decode cX1_letter 49 = .ok (.iconst 1, 1) := by decide +kernel
theorem dX1_letter_50 : decode cX1_letter 50 = .ok (.iadd, 1) := by decide +kernel
theorem dX1_letter_51 : decode cX1_letter 51 = .ok (.putfield 30, 3) := by decide +kernel
theorem dX1_letter_54 : decode cX1_letter 54 = .ok (.aload_n 0, 1) := by decide +kernel
theorem dX1_letter_55 : decode cX1_letter 55 = .ok (.getfield 30, 3) := by decide +kernel
theorem dX1_letter_58 : decode cX1_letter 58 = .ok (.ireturn, 1) := by decide +kernel
set_option maxRecDepth 20000 in
theorem ggX1_valley_X1_wrongLetter : GoodIn wsX1_valley wsX1_wrongLetter := goodIn_r _ [9, 4, 10, 11, 8, 12, 13, 14, 15, 16, 17, 18, 19, 20, 21, 22, 23, 24, 25, 26, 27, 28, 29, 30, 31, 32, 33, 34, 35, 36, 37, 38, 39, 40, 41, 42, 43, 44, 45, 46, 47, 48, 49, 50, 51, 52, 53, 54, 55, 56, 57, 58, 59, 60, 61, 62, 63, 64, 65, 66, 67, 68, 69, 70, 71, 72, 73, 74, 75, 76, 77, 78, 79, 80, 81, 82, 83, 84, 85, 86, 87, 88, 89, 90, 91, 92, 93, 94, 95, 96, 97, 98, 99, 100, 101, 102, 103, 104, 105, 106, 107, 220, 221, 222, 223, 224, 225, 226, 227, 228, 229, 230, 231] (by decide +kernel) (by decide +kernel)
set_option maxRecDepth 20000 in
theorem gX1_valley_X1_wrongLetter : GoodIn wsX1_valley (wsV RX1 56 RX1 yX1_wrongLetter wsX1_wrongLetter) := goodIn_app (goodIn_of _ (by decide +kernel)) ggX1_valley_X1_wrongLetter
set_option maxRecDepth 20000 in
theorem ggX1_valley_X0_copyFrom : GoodIn wsX1_valley wsX0_copyFrom := goodIn_r _ [112, 113, 114, 115, 116, 117, 118, 119, 120, 121, 122, 123, 124, 125, 126, 127, 128, 232, 233, 234, 235, 236, 237, 238, 239, 240, 241, 242, 243] (by decide +kernel) (by decide +kernel)
set_option maxRecDepth 20000 in
theorem gX1_valley_X0_copyFrom : GoodIn wsX1_valley (wsV RX1 59 RX0 yX0_copyFrom wsX0_copyFrom) := goodIn_app (goodIn_of _ (by decide +kernel)) ggX1_valley_X0_copyFrom
set_option maxRecDepth 20000 in
theorem ggX1_valley_X1_comesToMind : GoodIn wsX1_valley wsX1_comesToMind := goodIn_r _ [132, 4, 2, 133, 134, 135, 136, 137, 8, 138, 16, 17, 18, 19, 20, 21, 22, 23, 24, 25, 26, 27, 28, 29, 30, 31, 32, 33, 34, 35, 36, 37, 38, 39, 40, 41, 42, 43, 44, 45, 46, 47, 48, 49, 50, 51, 52, 53, 54, 55, 56, 57, 58, 59, 60, 61, 62, 63, 64, 65, 66, 67, 68, 69, 70, 71, 72, 73, 74, 75, 76, 77, 78, 79, 80, 81, 82, 83, 84, 85, 86, 87, 88, 89, 90, 91, 92, 93, 94, 95, 96, 97, 98, 99, 100, 101, 102, 103, 104, 105, 106, 107, 139, 140, 141, 142, 143, 144, 145, 111, 146, 113, 114, 119, 120, 147, 148, 149, 150, 122, 123, 124, 151, 152, 153, 154, 155, 156, 157, 158, 126, 159, 160, 161, 162, 163, 164, 165, 166, 121, 167, 168, 169, 170, 171, 172, 173, 174, 125, 175, 176, 177, 178, 179, 180, 181, 182, 183, 184, 185, 186, 127, 187, 188, 189, 190, 191, 192, 193, 194, 195, 196, 197, 198, 199, 200, 201, 202, 203, 204, 205, 206, 207, 208, 209, 128, 210, 211, 212, 213, 214, 215, 216, 217, 218, 219, 220, 221, 222, 223, 224, 225, 226, 227, 228, 229, 230, 231, 232, 233, 234, 235, 236, 237, 238, 239, 240, 241, 242, 243] (by decide +kernel) (by decide +kernel)
set_option maxRecDepth 20000 in
theorem gX1_valley_X1_comesToMind : GoodIn wsX1_valley (wsV RX1 63 RX1 yX1_comesToMind wsX1_comesToMind) := goodIn_app (goodIn_of _ (by decide +kernel)) ggX1_valley_X1_comesToMind
set_option maxRecDepth 20000 in
theorem ggX1_valley_X1_lettersBehind : GoodIn wsX1_valley wsX1_lettersBehind := goodIn_r _ [12] (by decide +kernel) (by decide +kernel)
set_option maxRecDepth 20000 in
theorem gX1_valley_X1_lettersBehind : GoodIn wsX1_valley (va_wsS RX1 67 yX1_lettersBehind wsX1_lettersBehind) := goodIn_app (goodIn_of _ (by decide +kernel)) ggX1_valley_X1_lettersBehind
theorem dX1_valley_0 : decode cX1_valley 0 = .ok (.aload_n 0, 1) := by decide +kernel
theorem dX1_valley_1 : decode cX1_valley 1 = .ok (.getfield 30, 3) := by decide +kernel
theorem dX1_valley_4 : decode cX1_valley 4 = .ok (.istore_n 1, 1) := by decide +kernel
theorem dX1_valley_5 : decode cX1_valley 5 = .ok (.aload_n 0, 1) := by decide +kernel
theorem dX1_valley_6 : decode cX1_valley 6 = .ok (.iconst 0, 1) := by decide +kernel
theorem dX1_valley_7 : decode cX1_valley 7 = .ok (.putfield 30, 3) := by decide +kernel
theorem dX1_valley_10 : decode cX1_valley 10 = .ok (.aload_n 0, 1) := by decide +kernel
theorem dX1_valley_11 : decode cX1_valley 11 = .ok (.iload_n 1, 1) := by decide +kernel
theorem dX1_valley_12 : decode cX1_valley 12 = .ok (.invokevirtual 56, 3) := by decide +kernel
theorem dX1_valley_15 : decode cX1_valley 15 = .ok (.istore_n 2, 1) := by decide +kernel
theorem dX1_valley_16 : decode cX1_valley 16 = .ok (.iload_n 2, 1) := by decide +kernel
theorem dX1_valley_17 : decode cX1_valley 17 = .ok (.ifCond .lt 9, 3) := by decide +kernel
theorem dX1_valley_20 : decode cX1_valley 20 = .ok (.sipush (-1000), 3) := by decide +kernel
theorem dX1_valley_23 : decode cX1_valley 23 = .ok (.iload_n 2, 1) := by decide +kernel
theorem dX1_valley_24 : decode cX1_valley 24 = .ok (.isub, 1) := by decide +kernel
theorem dX1_valley_25 : decode cX1_valley 25 = .ok (.ireturn, 1) := by decide +kernel
theorem dX1_valley_26 : decode cX1_valley 26 = .ok (.aload_n 0, 1) := by decide +kernel
theorem dX1_valley_27 : decode cX1_valley 27 = .ok (.getfield 16, 3) := by decide +kernel
theorem dX1_valley_30 : decode cX1_valley 30 = .ok (.aload_n 0, 1) := by decide +kernel
theorem dX1_valley_31 : decode cX1_valley 31 = .ok (.getfield 10, 3) := by decide +kernel
theorem dX1_valley_34 : decode cX1_valley 34 = .ok (.invokevirtual 59, 3) := by decide +kernel
theorem dX1_valley_37 : decode cX1_valley 37 = .ok (.iconst 0, 1) := by decide +kernel
theorem dX1_valley_38 : decode cX1_valley 38 = .ok (.istore_n 3, 1) := by decide +kernel
theorem dX1_valley_39 : decode cX1_valley 39 = .ok (.iconst 0, 1) := by decide +kernel
theorem dX1_valley_40 : decode cX1_valley 40 = .ok (.istore 4, 2) := by decide +kernel
theorem dX1_valley_42 : decode cX1_valley 42 = .ok (.iload 4, 2) := by decide +kernel
theorem dX1_valley_44 : decode cX1_valley 44 = .ok (.iload_n 1, 1) := by decide +kernel
theorem dX1_valley_45 : decode cX1_valley 45 = .ok (.if_icmp .ge 42, 3) := by decide +kernel
theorem dX1_valley_48 : decode cX1_valley 48 = .ok (.aload_n 0, 1) := by decide +kernel
theorem dX1_valley_49 : decode cX1_valley 49 = .ok (.iload 4, 2) := by decide +kernel
theorem dX1_valley_51 : decode cX1_valley 51 = .ok (.invokevirtual 63, 3) := by decide +kernel
theorem dX1_valley_54 : decode cX1_valley 54 = .ok (.ifCond .ne 10, 3) := by decide +kernel
theorem dX1_valley_57 : decode cX1_valley 57 = .ok (.sipush (-2000), 3) := by decide +kernel
theorem dX1_valley_60 : decode cX1_valley 60 = .ok (.iload 4, 2) := by decide +kernel
theorem dX1_valley_62 : decode cX1_valley 62 = .ok (.isub, 1) := by decide +kernel
theorem dX1_valley_63 : decode cX1_valley 63 = .ok (.ireturn, 1) := by decide +kernel
theorem dX1_valley_64 : decode cX1_valley 64 = .ok (.iinc 3 1, 3) := by decide +kernel
theorem dX1_valley_67 : decode cX1_valley 67 = .ok (.iload 4, 2) := by decide +kernel
theorem dX1_valley_69 : decode cX1_valley 69 = .ok (.iconst 1, 1) := by decide +kernel
theorem dX1_valley_70 : decode cX1_valley 70 = .ok (.aload_n 0, 1) := by decide +kernel
theorem dX1_valley_71 : decode cX1_valley 71 = .ok (.getfield 26, 3) := by decide +kernel
theorem dX1_valley_74 : decode cX1_valley 74 = .ok (.iload 4, 2) := by decide +kernel
theorem dX1_valley_76 : decode cX1_valley 76 = .ok (.iaload, 1) := by decide +kernel
theorem dX1_valley_77 : decode cX1_valley 77 = .ok (.invokestatic 67, 3) := by decide +kernel
theorem dX1_valley_80 : decode cX1_valley 80 = .ok (.iadd, 1) := by decide +kernel
theorem dX1_valley_81 : decode cX1_valley 81 = .ok (.iadd, 1) := by decide +kernel
theorem dX1_valley_82 : decode cX1_valley 82 = .ok (.istore 4, 2) := by decide +kernel
theorem dX1_valley_84 : decode cX1_valley 84 = .ok (.goto (-42), 3) := by decide +kernel
theorem dX1_valley_87 : decode cX1_valley 87 = .ok (.aload_n 0, 1) := by decide +kernel
theorem dX1_valley_88 : decode cX1_valley 88 = .ok (.getfield 10, 3) := by decide +kernel
theorem dX1_valley_91 : decode cX1_valley 91 = .ok (.aload_n 0, 1) := by decide +kernel
theorem dX1_valley_92 : decode cX1_valley 92 = .ok (.getfield 16, 3) := by decide +kernel
theorem dX1_valley_95 : decode cX1_valley 95 = .ok (.invokevirtual 59, 3) := by decide +kernel
theorem dX1_valley_98 : decode cX1_valley 98 = .ok (.iload_n 3, 1) := by decide +kernel
theorem dX1_valley_99 : decode cX1_valley 99 = .ok (.ireturn, 1) := by decide +kernel
set_option maxRecDepth 20000 in
theorem ggX1_rocket_X0_hasRocket : GoodIn wsX1_rocket wsX0_hasRocket := goodIn_r _ [9, 10, 61, 62, 63, 64, 65, 66, 67, 68, 69, 70, 71, 72] (by decide +kernel) (by decide +kernel)
set_option maxRecDepth 20000 in
theorem gX1_rocket_X0_hasRocket : GoodIn wsX1_rocket (wsV RX1 70 RX0 yX0_hasRocket wsX0_hasRocket) := goodIn_app (goodIn_of _ (by decide +kernel)) ggX1_rocket_X0_hasRocket
set_option maxRecDepth 20000 in
theorem ggX1_rocket_X1_refuse : GoodIn wsX1_rocket wsX1_refuse := goodIn_r _ [15, 16, 49, 50, 51, 52, 53, 54, 55, 56, 57, 58, 59, 60] (by decide +kernel) (by decide +kernel)
set_option maxRecDepth 20000 in
theorem gX1_rocket_X1_refuse : GoodIn wsX1_rocket (wsV RX1 52 RX1 yX1_refuse wsX1_refuse) := goodIn_app (goodIn_of _ (by decide +kernel)) ggX1_rocket_X1_refuse
set_option maxRecDepth 20000 in
theorem ggX1_rocket_X0_isSent : GoodIn wsX1_rocket wsX0_isSent := goodIn_r _ [20, 21, 61, 62, 63, 64, 65, 66, 67, 68, 69, 70, 71, 72] (by decide +kernel) (by decide +kernel)
set_option maxRecDepth 20000 in
theorem gX1_rocket_X0_isSent : GoodIn wsX1_rocket (wsV RX1 82 RX0 yX0_isSent wsX0_isSent) := goodIn_app (goodIn_of _ (by decide +kernel)) ggX1_rocket_X0_isSent
set_option maxRecDepth 20000 in
theorem ggX1_rocket_X0_costOf : GoodIn wsX1_rocket wsX0_costOf := goodIn_r _ [25, 26, 61, 62, 63, 64, 65, 66, 67, 68, 69, 70, 71, 72] (by decide +kernel) (by decide +kernel)
set_option maxRecDepth 20000 in
theorem gX1_rocket_X0_costOf : GoodIn wsX1_rocket (wsV RX1 85 RX0 yX0_costOf wsX0_costOf) := goodIn_app (goodIn_of _ (by decide +kernel)) ggX1_rocket_X0_costOf
set_option maxRecDepth 20000 in
theorem ggX1_rocket_X0_reachOf : GoodIn wsX1_rocket wsX0_reachOf := goodIn_r _ [30, 31, 26, 61, 62, 63, 64, 65, 66, 67, 68, 69, 70, 71, 72] (by decide +kernel) (by decide +kernel)
set_option maxRecDepth 20000 in
theorem gX1_rocket_X0_reachOf : GoodIn wsX1_rocket (wsV RX1 88 RX0 yX0_reachOf wsX0_reachOf) := goodIn_app (goodIn_of _ (by decide +kernel)) ggX1_rocket_X0_reachOf
set_option maxRecDepth 20000 in
theorem ggX1_rocket_X0_darkOf : GoodIn wsX1_rocket wsX0_darkOf := goodIn_r _ [35, 31, 26, 61, 62, 63, 64, 65, 66, 67, 68, 69, 70, 71, 72] (by decide +kernel) (by decide +kernel)
set_option maxRecDepth 20000 in
theorem gX1_rocket_X0_darkOf : GoodIn wsX1_rocket (wsV RX1 91 RX0 yX0_darkOf wsX0_darkOf) := goodIn_app (goodIn_of _ (by decide +kernel)) ggX1_rocket_X0_darkOf
set_option maxRecDepth 20000 in
theorem ggX1_rocket_X0_burstOf : GoodIn wsX1_rocket wsX0_burstOf := goodIn_r _ [39, 26, 40, 61, 62, 63, 64, 65, 66, 67, 68, 69, 70, 71, 72] (by decide +kernel) (by decide +kernel)
set_option maxRecDepth 20000 in
theorem gX1_rocket_X0_burstOf : GoodIn wsX1_rocket (wsV RX1 94 RX0 yX0_burstOf wsX0_burstOf) := goodIn_app (goodIn_of _ (by decide +kernel)) ggX1_rocket_X0_burstOf
set_option maxRecDepth 20000 in
theorem ggX1_rocket_X0_readersOf : GoodIn wsX1_rocket wsX0_readersOf := goodIn_r _ [44, 45, 46, 47, 37, 38, 8, 39, 26, 40, 48, 28, 29, 30, 31, 61, 62, 63, 64, 65, 66, 67, 68, 69, 70, 71, 72] (by decide +kernel) (by decide +kernel)
set_option maxRecDepth 20000 in
theorem gX1_rocket_X0_readersOf : GoodIn wsX1_rocket (wsV RX1 97 RX0 yX0_readersOf wsX0_readersOf) := goodIn_app (goodIn_of _ (by decide +kernel)) ggX1_rocket_X0_readersOf
theorem dX1_rocket_0 : decode cX1_rocket 0 = .ok (.aload_n 0, 1) := by decide +kernel
theorem dX1_rocket_1 : decode cX1_rocket 1 = .ok (.getfield 10, 3) := by decide +kernel
theorem dX1_rocket_4 : decode cX1_rocket 4 = .ok (.iload_n 1, 1) := by decide +kernel
theorem dX1_rocket_5 : decode cX1_rocket 5 = .ok (.invokevirtual 70, 3) := by decide +kernel
theorem dX1_rocket_8 : decode cX1_rocket 8 = .ok (.ifCond .ne 9, 3) := by decide +kernel
theorem dX1_rocket_11 : decode cX1_rocket 11 = .ok (.aload_n 0, 1) := by decide +kernel
theorem dX1_rocket_12 : decode cX1_rocket 12 = .ok (.iconst (-1), 1) := by decide +kernel
theorem dX1_rocket_13 : decode cX1_rocket 13 = .ok (.invokevirtual 52, 3) := by decide +kernel
theorem dX1_rocket_16 : decode cX1_rocket 16 = .ok (.ireturn, 1) := by decide +kernel
theorem dX1_rocket_17 : decode cX1_rocket 17 = .ok (.iload_n 2, 1) := by decide +kernel
theorem dX1_rocket_18 : decode cX1_rocket 18 = .ok (.tableswitch 142 0 8 #[50, 60, 70, 80, 97, 106, 115, 124, 133], 50) := by decide +kernel
theorem dX1_rocket_68 : decode cX1_rocket 68 = .ok (.aload_n 0, 1) := by decide +kernel
theorem dX1_rocket_69 : decode cX1_rocket 69 = .ok (.getfield 10, 3) := by decide +kernel
theorem dX1_rocket_72 : decode cX1_rocket 72 = .ok (.getfield 73, 3) := by decide +kernel
theorem dX1_rocket_75 : decode cX1_rocket 75 = .ok (.iload_n 1, 1) := by decide +kernel
theorem dX1_rocket_76 : decode cX1_rocket 76 = .ok (.iaload, 1) := by decide +kernel
theorem dX1_rocket_77 : decode cX1_rocket 77 = .ok (.ireturn, 1) := by decide +kernel
theorem dX1_rocket_78 : decode cX1_rocket 78 = .ok (.aload_n 0, 1) := by decide +kernel
theorem dX1_rocket_79 : decode cX1_rocket 79 = .ok (.getfield 10, 3) := by decide +kernel
theorem dX1_rocket_82 : decode cX1_rocket 82 = .ok (.getfield 76, 3) := by decide +kernel
theorem dX1_rocket_85 : decode cX1_rocket 85 = .ok (.iload_n 1, 1) := by decide +kernel
theorem dX1_rocket_86 : decode cX1_rocket 86 = .ok (.iaload, 1) := by decide +kernel
theorem dX1_rocket_87 : decode cX1_rocket 87 = .ok (.ireturn, 1) := by decide +kernel
theorem dX1_rocket_88 : decode cX1_rocket 88 = .ok (.aload_n 0, 1) := by decide +kernel
theorem dX1_rocket_89 : decode cX1_rocket 89 = .ok (.getfield 10, 3) := by decide +kernel
theorem dX1_rocket_92 : decode cX1_rocket 92 = .ok (.getfield 79, 3) := by decide +kernel
theorem dX1_rocket_95 : decode cX1_rocket 95 = .ok (.iload_n 1, 1) := by decide +kernel
theorem dX1_rocket_96 : decode cX1_rocket 96 = .ok (.iaload, 1) := by decide +kernel
theorem dX1_rocket_97 : decode cX1_rocket 97 = .ok (.ireturn, 1) := by decide +kernel
theorem dX1_rocket_98 : decode cX1_rocket 98 = .ok (.aload_n 0, 1) := by decide +kernel
theorem dX1_rocket_99 : decode cX1_rocket 99 = .ok (.getfield 10, 3) := by decide +kernel
theorem dX1_rocket_102 : decode cX1_rocket 102 = .ok (.iload_n 1, 1) := by decide +kernel
theorem dX1_rocket_103 : decode cX1_rocket 103 = .ok (.invokevirtual 82, 3) := by decide +kernel
theorem dX1_rocket_106 : decode cX1_rocket 106 = .ok (.ifCond .eq 7, 3) := by decide +kernel
theorem dX1_rocket_109 : decode cX1_rocket 109 = .ok (.iconst 1, 1) := by decide +kernel
theorem dX1_rocket_110 : decode cX1_rocket 110 = .ok (.goto 4, 3) := by decide +kernel
theorem dX1_rocket_113 : decode cX1_rocket 113 = .ok (.iconst 0, 1) := by decide +kernel
theorem dX1_rocket_114 : decode cX1_rocket 114 = .ok (.ireturn, 1) := by decide +kernel
theorem dX1_rocket_115 : decode cX1_rocket 115 = .ok (.aload_n 0, 1) := by decide +kernel
theorem dX1_rocket_116 : decode cX1_rocket 116 = .ok (.getfield 10, 3) := by decide +kernel
theorem dX1_rocket_119 : decode cX1_rocket 119 = .ok (.iload_n 1, 1) := by decide +kernel
theorem dX1_rocket_120 : decode cX1_rocket 120 = .ok (.invokevirtual 85, 3) := by decide +kernel
theorem dX1_rocket_123 : decode cX1_rocket 123 = .ok (.ireturn, 1) := by decide +kernel
theorem dX1_rocket_124 : decode cX1_rocket 124 = .ok (.aload_n 0, 1) := by decide +kernel
theorem dX1_rocket_125 : decode cX1_rocket 125 = .ok (.getfield 10, 3) := by decide +kernel
theorem dX1_rocket_128 : decode cX1_rocket 128 = .ok (.iload_n 1, 1) := by decide +kernel
theorem dX1_rocket_129 : decode cX1_rocket 129 = .ok (.invokevirtual 88, 3) := by decide +kernel
theorem dX1_rocket_132 : decode cX1_rocket 132 = .ok (.ireturn, 1) := by decide +kernel
theorem dX1_rocket_133 : decode cX1_rocket 133 = .ok (.aload_n 0, 1) := by decide +kernel
theorem dX1_rocket_134 : decode cX1_rocket 134 = .ok (.getfield 10, 3) := by decide +kernel
theorem dX1_rocket_137 : decode cX1_rocket 137 = .ok (.iload_n 1, 1) := by decide +kernel
theorem dX1_rocket_138 : decode cX1_rocket 138 = .ok (.invokevirtual 91, 3) := by decide +kernel
theorem dX1_rocket_141 : decode cX1_rocket 141 = .ok (.ireturn, 1) := by decide +kernel
theorem dX1_rocket_142 : decode cX1_rocket 142 = .ok (.aload_n 0, 1) := by decide +kernel
theorem dX1_rocket_143 : decode cX1_rocket 143 = .ok (.getfield 10, 3) := by decide +kernel
theorem dX1_rocket_146 : decode cX1_rocket 146 = .ok (.iload_n 1, 1) := by decide +kernel
theorem dX1_rocket_147 : decode cX1_rocket 147 = .ok (.invokevirtual 94, 3) := by decide +kernel
theorem dX1_rocket_150 : decode cX1_rocket 150 = .ok (.ireturn, 1) := by decide +kernel
theorem dX1_rocket_151 : decode cX1_rocket 151 = .ok (.aload_n 0, 1) := by decide +kernel
theorem dX1_rocket_152 : decode cX1_rocket 152 = .ok (.getfield 10, 3) := by decide +kernel
theorem dX1_rocket_155 : decode cX1_rocket 155 = .ok (.iload_n 1, 1) := by decide +kernel
theorem dX1_rocket_156 : decode cX1_rocket 156 = .ok (.invokevirtual 97, 3) := by decide +kernel
theorem dX1_rocket_159 : decode cX1_rocket 159 = .ok (.ireturn, 1) := by decide +kernel
theorem dX1_rocket_160 : decode cX1_rocket 160 = .ok (.aload_n 0, 1) := by decide +kernel
theorem dX1_rocket_161 : decode cX1_rocket 161 = .ok (.bipush (-2), 2) := by decide +kernel
theorem dX1_rocket_163 : decode cX1_rocket 163 = .ok (.invokevirtual 52, 3) := by decide +kernel
theorem dX1_rocket_166 : decode cX1_rocket 166 = .ok (.ireturn, 1) := by decide +kernel
set_option maxRecDepth 20000 in
theorem ggX1_reader_X0_hasReader : GoodIn wsX1_reader wsX0_hasReader := goodIn_r _ [8, 9, 33, 34, 35, 36, 37, 38, 39, 40, 41, 42, 43, 44] (by decide +kernel) (by decide +kernel)
set_option maxRecDepth 20000 in
theorem gX1_reader_X0_hasReader : GoodIn wsX1_reader (wsV RX1 100 RX0 yX0_hasReader wsX0_hasReader) := goodIn_app (goodIn_of _ (by decide +kernel)) ggX1_reader_X0_hasReader
set_option maxRecDepth 20000 in
theorem ggX1_reader_X1_refuse : GoodIn wsX1_reader wsX1_refuse := goodIn_r _ [14, 15, 21, 22, 23, 24, 25, 26, 27, 28, 29, 30, 31, 32] (by decide +kernel) (by decide +kernel)
set_option maxRecDepth 20000 in
theorem gX1_reader_X1_refuse : GoodIn wsX1_reader (wsV RX1 52 RX1 yX1_refuse wsX1_refuse) := goodIn_app (goodIn_of _ (by decide +kernel)) ggX1_reader_X1_refuse
set_option maxRecDepth 20000 in
theorem ggX1_reader_X0_wordsOf : GoodIn wsX1_reader wsX0_wordsOf := goodIn_r _ [19, 20, 33, 34, 35, 36, 37, 38, 39, 40, 41, 42, 43, 44] (by decide +kernel) (by decide +kernel)
set_option maxRecDepth 20000 in
theorem gX1_reader_X0_wordsOf : GoodIn wsX1_reader (wsV RX1 109 RX0 yX0_wordsOf wsX0_wordsOf) := goodIn_app (goodIn_of _ (by decide +kernel)) ggX1_reader_X0_wordsOf
theorem dX1_reader_0 : decode cX1_reader 0 = .ok (.aload_n 0, 1) := by decide +kernel
theorem dX1_reader_1 : decode cX1_reader 1 = .ok (.getfield 10, 3) := by decide +kernel
theorem dX1_reader_4 : decode cX1_reader 4 = .ok (.iload_n 1, 1) := by decide +kernel
theorem dX1_reader_5 : decode cX1_reader 5 = .ok (.invokevirtual 100, 3) := by decide +kernel
theorem dX1_reader_8 : decode cX1_reader 8 = .ok (.ifCond .ne 9, 3) := by decide +kernel
theorem dX1_reader_11 : decode cX1_reader 11 = .ok (.aload_n 0, 1) := by decide +kernel
theorem dX1_reader_12 : decode cX1_reader 12 = .ok (.iconst (-1), 1) := by decide +kernel
theorem dX1_reader_13 : decode cX1_reader 13 = .ok (.invokevirtual 52, 3) := by decide +kernel
theorem dX1_reader_16 : decode cX1_reader 16 = .ok (.ireturn, 1) := by decide +kernel
theorem dX1_reader_17 : decode cX1_reader 17 = .ok (.iload_n 2, 1) := by decide +kernel
theorem dX1_reader_18 : decode cX1_reader 18 = .ok (.tableswitch 55 0 2 #[26, 36, 46], 26) := by decide +kernel
theorem dX1_reader_44 : decode cX1_reader 44 = .ok (.aload_n 0, 1) := by decide +kernel
theorem dX1_reader_45 : decode cX1_reader 45 = .ok (.getfield 10, 3) := by decide +kernel
theorem dX1_reader_48 : decode cX1_reader 48 = .ok (.getfield 103, 3) := by decide +kernel
theorem dX1_reader_51 : decode cX1_reader 51 = .ok (.iload_n 1, 1) := by decide +kernel
theorem dX1_reader_52 : decode cX1_reader 52 = .ok (.iaload, 1) := by decide +kernel
theorem dX1_reader_53 : decode cX1_reader 53 = .ok (.ireturn, 1) := by decide +kernel
theorem dX1_reader_54 : decode cX1_reader 54 = .ok (.aload_n 0, 1) := by decide +kernel
theorem dX1_reader_55 : decode cX1_reader 55 = .ok (.getfield 10, 3) := by decide +kernel
theorem dX1_reader_58 : decode cX1_reader 58 = .ok (.getfield 106, 3) := by decide +kernel
theorem dX1_reader_61 : decode cX1_reader 61 = .ok (.iload_n 1, 1) := by decide +kernel
theorem dX1_reader_62 : decode cX1_reader 62 = .ok (.iaload, 1) := by decide +kernel
theorem dX1_reader_63 : decode cX1_reader 63 = .ok (.ireturn, 1) := by decide +kernel
theorem dX1_reader_64 : decode cX1_reader 64 = .ok (.aload_n 0, 1) := by decide +kernel
theorem dX1_reader_65 : decode cX1_reader 65 = .ok (.getfield 10, 3) := by decide +kernel
theorem dX1_reader_68 : decode cX1_reader 68 = .ok (.iload_n 1, 1) := by decide +kernel
theorem dX1_reader_69 : decode cX1_reader 69 = .ok (.invokevirtual 109, 3) := by decide +kernel
theorem dX1_reader_72 : decode cX1_reader 72 = .ok (.ireturn, 1) := by decide +kernel
theorem dX1_reader_73 : decode cX1_reader 73 = .ok (.aload_n 0, 1) := by decide +kernel
theorem dX1_reader_74 : decode cX1_reader 74 = .ok (.bipush (-2), 2) := by decide +kernel
theorem dX1_reader_76 : decode cX1_reader 76 = .ok (.invokevirtual 52, 3) := by decide +kernel
theorem dX1_reader_79 : decode cX1_reader 79 = .ok (.ireturn, 1) := by decide +kernel
set_option maxRecDepth 20000 in
theorem ggX1_keeps_X0_hasReader : GoodIn wsX1_keeps wsX0_hasReader := goodIn_r _ [7, 8, 27, 28, 29, 30, 31, 32, 33, 34, 35, 36, 37, 38] (by decide +kernel) (by decide +kernel)
set_option maxRecDepth 20000 in
theorem gX1_keeps_X0_hasReader : GoodIn wsX1_keeps (wsV RX1 100 RX0 yX0_hasReader wsX0_hasReader) := goodIn_app (goodIn_of _ (by decide +kernel)) ggX1_keeps_X0_hasReader
set_option maxRecDepth 20000 in
theorem ggX1_keeps_X1_refuse : GoodIn wsX1_keeps wsX1_refuse := goodIn_r _ [13, 14, 15, 16, 17, 18, 19, 20, 21, 22, 23, 24, 25, 26] (by decide +kernel) (by decide +kernel)
set_option maxRecDepth 20000 in
theorem gX1_keeps_X1_refuse : GoodIn wsX1_keeps (wsV RX1 52 RX1 yX1_refuse wsX1_refuse) := goodIn_app (goodIn_of _ (by decide +kernel)) ggX1_keeps_X1_refuse
theorem dX1_keeps_0 : decode cX1_keeps 0 = .ok (.aload_n 0, 1) := by decide +kernel
theorem dX1_keeps_1 : decode cX1_keeps 1 = .ok (.getfield 10, 3) := by decide +kernel
theorem dX1_keeps_4 : decode cX1_keeps 4 = .ok (.iload_n 1, 1) := by decide +kernel
theorem dX1_keeps_5 : decode cX1_keeps 5 = .ok (.invokevirtual 100, 3) := by decide +kernel
theorem dX1_keeps_8 : decode cX1_keeps 8 = .ok (.ifCond .eq 13, 3) := by decide +kernel
theorem dX1_keeps_11 : decode cX1_keeps 11 = .ok (.iload_n 2, 1) := by decide +kernel
theorem dX1_keeps_12 : decode cX1_keeps 12 = .ok (.ifCond .lt 9, 3) := by decide +kernel
theorem dX1_keeps_15 : decode cX1_keeps 15 = .ok (.iload_n 2, 1) := by decide +kernel
theorem dX1_keeps_16 : decode cX1_keeps 16 = .ok (.bipush 6, 2) := by decide +kernel
theorem dX1_keeps_18 : decode cX1_keeps 18 = .ok (.if_icmp .lt 9, 3) := by decide +kernel
theorem dX1_keeps_21 : decode cX1_keeps 21 = .ok (.aload_n 0, 1) := by decide +kernel
theorem dX1_keeps_22 : decode cX1_keeps 22 = .ok (.iconst (-1), 1) := by decide +kernel
theorem dX1_keeps_23 : decode cX1_keeps 23 = .ok (.invokevirtual 52, 3) := by decide +kernel
theorem dX1_keeps_26 : decode cX1_keeps 26 = .ok (.ireturn, 1) := by decide +kernel
theorem dX1_keeps_27 : decode cX1_keeps 27 = .ok (.aload_n 0, 1) := by decide +kernel
theorem dX1_keeps_28 : decode cX1_keeps 28 = .ok (.getfield 10, 3) := by decide +kernel
theorem dX1_keeps_31 : decode cX1_keeps 31 = .ok (.getfield 112, 3) := by decide +kernel
theorem dX1_keeps_34 : decode cX1_keeps 34 = .ok (.iload_n 1, 1) := by decide +kernel
theorem dX1_keeps_35 : decode cX1_keeps 35 = .ok (.bipush 6, 2) := by decide +kernel
theorem dX1_keeps_37 : decode cX1_keeps 37 = .ok (.imul, 1) := by decide +kernel
theorem dX1_keeps_38 : decode cX1_keeps 38 = .ok (.iload_n 2, 1) := by decide +kernel
theorem dX1_keeps_39 : decode cX1_keeps 39 = .ok (.iadd, 1) := by decide +kernel
theorem dX1_keeps_40 : decode cX1_keeps 40 = .ok (.iaload, 1) := by decide +kernel
theorem dX1_keeps_41 : decode cX1_keeps 41 = .ok (.ireturn, 1) := by decide +kernel
set_option maxRecDepth 20000 in
theorem ggX1_sends_X0_hasRocket : GoodIn wsX1_sends wsX0_hasRocket := goodIn_r _ [7, 8, 70, 71, 72, 73, 74, 75, 76, 77, 78, 79, 80, 81] (by decide +kernel) (by decide +kernel)
set_option maxRecDepth 20000 in
theorem gX1_sends_X0_hasRocket : GoodIn wsX1_sends (wsV RX1 70 RX0 yX0_hasRocket wsX0_hasRocket) := goodIn_app (goodIn_of _ (by decide +kernel)) ggX1_sends_X0_hasRocket
set_option maxRecDepth 20000 in
theorem ggX1_sends_X1_refuse : GoodIn wsX1_sends wsX1_refuse := goodIn_r _ [13, 14, 58, 59, 60, 61, 62, 63, 64, 65, 66, 67, 68, 69] (by decide +kernel) (by decide +kernel)
set_option maxRecDepth 20000 in
theorem gX1_sends_X1_refuse : GoodIn wsX1_sends (wsV RX1 52 RX1 yX1_refuse wsX1_refuse) := goodIn_app (goodIn_of _ (by decide +kernel)) ggX1_sends_X1_refuse
set_option maxRecDepth 20000 in
theorem ggX1_sends_X0_canSend : GoodIn wsX1_sends wsX0_canSend := goodIn_r _ [18, 19, 20, 4, 5, 6, 7, 8, 21, 22, 23, 24, 25, 26, 27, 28, 29, 30, 70, 71, 72, 73, 74, 75, 76, 77, 78, 79, 80, 81] (by decide +kernel) (by decide +kernel)
set_option maxRecDepth 20000 in
theorem gX1_sends_X0_canSend : GoodIn wsX1_sends (wsV RX1 115 RX0 yX0_canSend wsX0_canSend) := goodIn_app (goodIn_of _ (by decide +kernel)) ggX1_sends_X0_canSend
set_option maxRecDepth 20000 in
theorem ggX1_sends_X0_sendUp : GoodIn wsX1_sends wsX0_sendUp := goodIn_r _ [34, 19, 35, 36, 37, 38, 26, 27, 28, 6, 29, 30, 39, 40, 41, 42, 25, 43, 44, 45, 46, 47, 48, 49, 50, 51, 52, 53, 54, 55, 56, 57, 70, 71, 72, 73, 74, 75, 76, 77, 78, 79, 80, 81] (by decide +kernel) (by decide +kernel)
set_option maxRecDepth 20000 in
theorem gX1_sends_X0_sendUp : GoodIn wsX1_sends (wsV RX1 118 RX0 yX0_sendUp wsX0_sendUp) := goodIn_app (goodIn_of _ (by decide +kernel)) ggX1_sends_X0_sendUp
theorem dX1_sends_0 : decode cX1_sends 0 = .ok (.aload_n 0, 1) := by decide +kernel
theorem dX1_sends_1 : decode cX1_sends 1 = .ok (.getfield 10, 3) := by decide +kernel
theorem dX1_sends_4 : decode cX1_sends 4 = .ok (.iload_n 1, 1) := by decide +kernel
theorem dX1_sends_5 : decode cX1_sends 5 = .ok (.invokevirtual 70, 3) := by decide +kernel
theorem dX1_sends_8 : decode cX1_sends 8 = .ok (.ifCond .ne 9, 3) := by decide +kernel
theorem dX1_sends_11 : decode cX1_sends 11 = .ok (.aload_n 0, 1) := by decide +kernel
theorem dX1_sends_12 : decode cX1_sends 12 = .ok (.iconst (-1), 1) := by decide +kernel
theorem dX1_sends_13 : decode cX1_sends 13 = .ok (.invokevirtual 52, 3) := by decide +kernel
theorem dX1_sends_16 : decode cX1_sends 16 = .ok (.ireturn, 1) := by decide +kernel
theorem dX1_sends_17 : decode cX1_sends 17 = .ok (.aload_n 0, 1) := by decide +kernel
theorem dX1_sends_18 : decode cX1_sends 18 = .ok (.getfield 10, 3) := by decide +kernel
theorem dX1_sends_21 : decode cX1_sends 21 = .ok (.iload_n 1, 1) := by decide +kernel
theorem dX1_sends_22 : decode cX1_sends 22 = .ok (.invokevirtual 115, 3) := by decide +kernel
theorem dX1_sends_25 : decode cX1_sends 25 = .ok (.ifCond .ne 10, 3) := by decide +kernel
theorem dX1_sends_28 : decode cX1_sends 28 = .ok (.aload_n 0, 1) := by decide +kernel
theorem dX1_sends_29 : decode cX1_sends 29 = .ok (.bipush (-3), 2) := by decide +kernel
theorem dX1_sends_31 : decode cX1_sends 31 = .ok (.invokevirtual 52, 3) := by decide +kernel
theorem dX1_sends_34 : decode cX1_sends 34 = .ok (.ireturn, 1) := by decide +kernel
theorem dX1_sends_35 : decode cX1_sends 35 = .ok (.aload_n 0, 1) := by decide +kernel
theorem dX1_sends_36 : decode cX1_sends 36 = .ok (.getfield 10, 3) := by decide +kernel
theorem dX1_sends_39 : decode cX1_sends 39 = .ok (.iload_n 1, 1) := by decide +kernel
theorem dX1_sends_40 : decode cX1_sends 40 = .ok (.bipush 31, 2) := by decide +kernel
theorem dX1_sends_42 : decode cX1_sends 42 = .ok (.invokevirtual 118, 3) := by decide +kernel
theorem dX1_sends_45 : decode cX1_sends 45 = .ok (.aload_n 0, 1) := by decide +kernel
theorem dX1_sends_46 : decode cX1_sends 46 = .ok (.getfield 10, 3) := by decide +kernel
theorem dX1_sends_49 : decode cX1_sends 49 = .ok (.getfield 122, 3) := by decide +kernel
theorem dX1_sends_52 : decode cX1_sends 52 = .ok (.ireturn, 1) := by decide +kernel
set_option maxRecDepth 20000 in
theorem ggX1_boxes_X0_hasRocket : GoodIn wsX1_boxes wsX0_hasRocket := goodIn_r _ [8, 9, 44, 45, 46, 47, 48, 49, 50, 51, 52, 53, 54, 55] (by decide +kernel) (by decide +kernel)
set_option maxRecDepth 20000 in
theorem gX1_boxes_X0_hasRocket : GoodIn wsX1_boxes (wsV RX1 70 RX0 yX0_hasRocket wsX0_hasRocket) := goodIn_app (goodIn_of _ (by decide +kernel)) ggX1_boxes_X0_hasRocket
set_option maxRecDepth 20000 in
theorem ggX1_boxes_X1_refuse : GoodIn wsX1_boxes wsX1_refuse := goodIn_r _ [14, 15, 32, 33, 34, 35, 36, 37, 38, 39, 40, 41, 42, 43] (by decide +kernel) (by decide +kernel)
set_option maxRecDepth 20000 in
theorem gX1_boxes_X1_refuse : GoodIn wsX1_boxes (wsV RX1 52 RX1 yX1_refuse wsX1_refuse) := goodIn_app (goodIn_of _ (by decide +kernel)) ggX1_boxes_X1_refuse
set_option maxRecDepth 20000 in
theorem ggX1_boxes_X0_isSent : GoodIn wsX1_boxes wsX0_isSent := goodIn_r _ [19, 20, 44, 45, 46, 47, 48, 49, 50, 51, 52, 53, 54, 55] (by decide +kernel) (by decide +kernel)
set_option maxRecDepth 20000 in
theorem gX1_boxes_X0_isSent : GoodIn wsX1_boxes (wsV RX1 82 RX0 yX0_isSent wsX0_isSent) := goodIn_app (goodIn_of _ (by decide +kernel)) ggX1_boxes_X0_isSent
set_option maxRecDepth 20000 in
theorem ggX1_boxes_X0_putBack : GoodIn wsX1_boxes wsX0_putBack := goodIn_r _ [24, 20, 44, 45, 46, 47, 48, 49, 50, 51, 52, 53, 54, 55] (by decide +kernel) (by decide +kernel)
set_option maxRecDepth 20000 in
theorem gX1_boxes_X0_putBack : GoodIn wsX1_boxes (wsV RX1 125 RX0 yX0_putBack wsX0_putBack) := goodIn_app (goodIn_of _ (by decide +kernel)) ggX1_boxes_X0_putBack
set_option maxRecDepth 20000 in
theorem ggX1_boxes_J6_bitCount_0f7a4 : GoodIn wsX1_boxes wsJ6_bitCount_0f7a4 := goodIn_r _ [28, 29, 30, 31] (by decide +kernel) (by decide +kernel)
set_option maxRecDepth 20000 in
theorem gX1_boxes_J6_bitCount_0f7a4 : GoodIn wsX1_boxes (va_wsS RX1 135 yJ6_bitCount_0f7a4 wsJ6_bitCount_0f7a4) := goodIn_app (goodIn_of _ (by decide +kernel)) ggX1_boxes_J6_bitCount_0f7a4
theorem dX1_boxes_0 : decode cX1_boxes 0 = .ok (.aload_n 0, 1) := by decide +kernel
theorem dX1_boxes_1 : decode cX1_boxes 1 = .ok (.getfield 10, 3) := by decide +kernel
theorem dX1_boxes_4 : decode cX1_boxes 4 = .ok (.iload_n 1, 1) := by decide +kernel
theorem dX1_boxes_5 : decode cX1_boxes 5 = .ok (.invokevirtual 70, 3) := by decide +kernel
theorem dX1_boxes_8 : decode cX1_boxes 8 = .ok (.ifCond .ne 9, 3) := by decide +kernel
theorem dX1_boxes_11 : decode cX1_boxes 11 = .ok (.aload_n 0, 1) := by decide +kernel
theorem dX1_boxes_12 : decode cX1_boxes 12 = .ok (.iconst (-1), 1) := by decide +kernel
theorem dX1_boxes_13 : decode cX1_boxes 13 = .ok (.invokevirtual 52, 3) := by decide +kernel
theorem dX1_boxes_16 : decode cX1_boxes 16 = .ok (.ireturn, 1) := by decide +kernel
theorem dX1_boxes_17 : decode cX1_boxes 17 = .ok (.aload_n 0, 1) := by decide +kernel
theorem dX1_boxes_18 : decode cX1_boxes 18 = .ok (.getfield 10, 3) := by decide +kernel
theorem dX1_boxes_21 : decode cX1_boxes 21 = .ok (.iload_n 1, 1) := by decide +kernel
theorem dX1_boxes_22 : decode cX1_boxes 22 = .ok (.invokevirtual 82, 3) := by decide +kernel
theorem dX1_boxes_25 : decode cX1_boxes 25 = .ok (.ifCond .ne 10, 3) := by decide +kernel
theorem dX1_boxes_28 : decode cX1_boxes 28 = .ok (.aload_n 0, 1) := by decide +kernel
theorem dX1_boxes_29 : decode cX1_boxes 29 = .ok (.bipush (-3), 2) := by decide +kernel
theorem dX1_boxes_31 : decode cX1_boxes 31 = .ok (.invokevirtual 52, 3) := by decide +kernel
theorem dX1_boxes_34 : decode cX1_boxes 34 = .ok (.ireturn, 1) := by decide +kernel
theorem dX1_boxes_35 : decode cX1_boxes 35 = .ok (.aload_n 0, 1) := by decide +kernel
theorem dX1_boxes_36 : decode cX1_boxes 36 = .ok (.getfield 10, 3) := by decide +kernel
theorem dX1_boxes_39 : decode cX1_boxes 39 = .ok (.iload_n 1, 1) := by decide +kernel
theorem dX1_boxes_40 : decode cX1_boxes 40 = .ok (.invokevirtual 125, 3) := by decide +kernel
theorem dX1_boxes_43 : decode cX1_boxes 43 = .ok (.aload_n 0, 1) := by decide +kernel
theorem dX1_boxes_44 : decode cX1_boxes 44 = .ok (.getfield 10, 3) := by decide +kernel
theorem dX1_boxes_47 : decode cX1_boxes 47 = .ok (.getfield 129, 3) := by decide +kernel
theorem dX1_boxes_50 : decode cX1_boxes 50 = .ok (.aload_n 0, 1) := by decide +kernel
theorem dX1_boxes_51 : decode cX1_boxes 51 = .ok (.getfield 10, 3) := by decide +kernel
theorem dX1_boxes_54 : decode cX1_boxes 54 = .ok (.getfield 132, 3) := by decide +kernel
theorem dX1_boxes_57 : decode cX1_boxes 57 = .ok (.invokestatic 135, 3) := by decide +kernel
theorem dX1_boxes_60 : decode cX1_boxes 60 = .ok (.isub, 1) := by decide +kernel
theorem dX1_boxes_61 : decode cX1_boxes 61 = .ok (.ireturn, 1) := by decide +kernel
set_option maxRecDepth 20000 in
theorem ggX1_wind_X1_outside : GoodIn wsX1_wind wsX1_outside := goodIn_r _ [6] (by decide +kernel) (by decide +kernel)
set_option maxRecDepth 20000 in
theorem gX1_wind_X1_outside : GoodIn wsX1_wind (va_wsS RX1 140 yX1_outside wsX1_outside) := goodIn_app (goodIn_of _ (by decide +kernel)) ggX1_wind_X1_outside
set_option maxRecDepth 20000 in
theorem ggX1_wind_X1_refuse : GoodIn wsX1_wind wsX1_refuse := goodIn_r _ [10, 11, 12, 13, 14, 15, 16, 17, 18, 19, 20, 21, 22, 23] (by decide +kernel) (by decide +kernel)
set_option maxRecDepth 20000 in
theorem gX1_wind_X1_refuse : GoodIn wsX1_wind (wsV RX1 52 RX1 yX1_refuse wsX1_refuse) := goodIn_app (goodIn_of _ (by decide +kernel)) ggX1_wind_X1_refuse
theorem dX1_wind_0 : decode cX1_wind 0 = .ok (.iload_n 1, 1) := by decide +kernel
theorem dX1_wind_1 : decode cX1_wind 1 = .ok (.iconst 0, 1) := by decide +kernel
theorem dX1_wind_2 : decode cX1_wind 2 = .ok (.bipush 9, 2) := by decide +kernel
theorem dX1_wind_4 : decode cX1_wind 4 = .ok (.invokestatic 140, 3) := by decide +kernel
theorem dX1_wind_7 : decode cX1_wind 7 = .ok (.istore_n 2, 1) := by decide +kernel
theorem dX1_wind_8 : decode cX1_wind 8 = .ok (.iload_n 2, 1) := by decide +kernel
theorem dX1_wind_9 : decode cX1_wind 9 = .ok (.ifCond .eq 9, 3) := by decide +kernel
theorem dX1_wind_12 : decode cX1_wind 12 = .ok (.aload_n 0, 1) := by decide +kernel
theorem dX1_wind_13 : decode cX1_wind 13 = .ok (.iload_n 2, 1) := by decide +kernel
theorem dX1_wind_14 : decode cX1_wind 14 = .ok (.invokevirtual 52, 3) := by decide +kernel
theorem dX1_wind_17 : decode cX1_wind 17 = .ok (.ireturn, 1) := by decide +kernel
theorem dX1_wind_18 : decode cX1_wind 18 = .ok (.aload_n 0, 1) := by decide +kernel
theorem dX1_wind_19 : decode cX1_wind 19 = .ok (.getfield 10, 3) := by decide +kernel
theorem dX1_wind_22 : decode cX1_wind 22 = .ok (.getfield 144, 3) := by decide +kernel
theorem dX1_wind_25 : decode cX1_wind 25 = .ok (.istore_n 3, 1) := by decide +kernel
theorem dX1_wind_26 : decode cX1_wind 26 = .ok (.aload_n 0, 1) := by decide +kernel
theorem dX1_wind_27 : decode cX1_wind 27 = .ok (.getfield 10, 3) := by decide +kernel
theorem dX1_wind_30 : decode cX1_wind 30 = .ok (.iload_n 1, 1) := by decide +kernel
theorem dX1_wind_31 : decode cX1_wind 31 = .ok (.putfield 144, 3) := by decide +kernel
theorem dX1_wind_34 : decode cX1_wind 34 = .ok (.iload_n 3, 1) := by decide +kernel
theorem dX1_wind_35 : decode cX1_wind 35 = .ok (.ireturn, 1) := by decide +kernel
set_option maxRecDepth 20000 in
theorem ggX1_grant_X1_outside : GoodIn wsX1_grant wsX1_outside := goodIn_r _ [6] (by decide +kernel) (by decide +kernel)
set_option maxRecDepth 20000 in
theorem gX1_grant_X1_outside : GoodIn wsX1_grant (va_wsS RX1 140 yX1_outside wsX1_outside) := goodIn_app (goodIn_of _ (by decide +kernel)) ggX1_grant_X1_outside
set_option maxRecDepth 20000 in
theorem ggX1_grant_X1_refuse : GoodIn wsX1_grant wsX1_refuse := goodIn_r _ [10, 11, 12, 13, 14, 15, 16, 17, 18, 19, 20, 21, 22, 23] (by decide +kernel) (by decide +kernel)
set_option maxRecDepth 20000 in
theorem gX1_grant_X1_refuse : GoodIn wsX1_grant (wsV RX1 52 RX1 yX1_refuse wsX1_refuse) := goodIn_app (goodIn_of _ (by decide +kernel)) ggX1_grant_X1_refuse
theorem dX1_grant_0 : decode cX1_grant 0 = .ok (.iload_n 1, 1) := by decide +kernel
theorem dX1_grant_1 : decode cX1_grant 1 = .ok (.iconst 0, 1) := by decide +kernel
theorem dX1_grant_2 : decode cX1_grant 2 = .ok (.sipush 999, 3) := by decide +kernel
theorem dX1_grant_5 : decode cX1_grant 5 = .ok (.invokestatic 140, 3) := by decide +kernel
theorem dX1_grant_8 : decode cX1_grant 8 = .ok (.istore_n 2, 1) := by decide +kernel
theorem dX1_grant_9 : decode cX1_grant 9 = .ok (.iload_n 2, 1) := by decide +kernel
theorem dX1_grant_10 : decode cX1_grant 10 = .ok (.ifCond .eq 9, 3) := by decide +kernel
theorem dX1_grant_13 : decode cX1_grant 13 = .ok (.aload_n 0, 1) := by decide +kernel
theorem dX1_grant_14 : decode cX1_grant 14 = .ok (.iload_n 2, 1) := by decide +kernel
theorem dX1_grant_15 : decode cX1_grant 15 = .ok (.invokevirtual 52, 3) := by decide +kernel
theorem dX1_grant_18 : decode cX1_grant 18 = .ok (.ireturn, 1) := by decide +kernel
theorem dX1_grant_19 : decode cX1_grant 19 = .ok (.aload_n 0, 1) := by decide +kernel
theorem dX1_grant_20 : decode cX1_grant 20 = .ok (.getfield 10, 3) := by decide +kernel
theorem dX1_grant_23 : decode cX1_grant 23 = .ok (.getfield 122, 3) := by decide +kernel
theorem dX1_grant_26 : decode cX1_grant 26 = .ok (.istore_n 3, 1) := by decide +kernel
theorem dX1_grant_27 : decode cX1_grant 27 = .ok (.aload_n 0, 1) := by decide +kernel
theorem dX1_grant_28 : decode cX1_grant 28 = .ok (.getfield 10, 3) := by decide +kernel
theorem dX1_grant_31 : decode cX1_grant 31 = .ok (.iload_n 1, 1) := by decide +kernel
theorem dX1_grant_32 : decode cX1_grant 32 = .ok (.putfield 122, 3) := by decide +kernel
theorem dX1_grant_35 : decode cX1_grant 35 = .ok (.iload_n 3, 1) := by decide +kernel
theorem dX1_grant_36 : decode cX1_grant 36 = .ok (.ireturn, 1) := by decide +kernel
set_option maxRecDepth 20000 in
theorem ggX1_stands_X0_hasReader : GoodIn wsX1_stands wsX0_hasReader := goodIn_r _ [7, 8, 27, 28, 29, 30, 31, 32, 33, 34, 35, 36, 37, 38] (by decide +kernel) (by decide +kernel)
set_option maxRecDepth 20000 in
theorem gX1_stands_X0_hasReader : GoodIn wsX1_stands (wsV RX1 100 RX0 yX0_hasReader wsX0_hasReader) := goodIn_app (goodIn_of _ (by decide +kernel)) ggX1_stands_X0_hasReader
set_option maxRecDepth 20000 in
theorem ggX1_stands_X1_refuse : GoodIn wsX1_stands wsX1_refuse := goodIn_r _ [13, 14, 15, 16, 17, 18, 19, 20, 21, 22, 23, 24, 25, 26] (by decide +kernel) (by decide +kernel)
set_option maxRecDepth 20000 in
theorem gX1_stands_X1_refuse : GoodIn wsX1_stands (wsV RX1 52 RX1 yX1_refuse wsX1_refuse) := goodIn_app (goodIn_of _ (by decide +kernel)) ggX1_stands_X1_refuse
theorem dX1_stands_0 : decode cX1_stands 0 = .ok (.aload_n 0, 1) := by decide +kernel
theorem dX1_stands_1 : decode cX1_stands 1 = .ok (.getfield 10, 3) := by decide +kernel
theorem dX1_stands_4 : decode cX1_stands 4 = .ok (.iload_n 1, 1) := by decide +kernel
theorem dX1_stands_5 : decode cX1_stands 5 = .ok (.invokevirtual 100, 3) := by decide +kernel
theorem dX1_stands_8 : decode cX1_stands 8 = .ok (.ifCond .eq 13, 3) := by decide +kernel
theorem dX1_stands_11 : decode cX1_stands 11 = .ok (.iload_n 2, 1) := by decide +kernel
theorem dX1_stands_12 : decode cX1_stands 12 = .ok (.ifCond .lt 9, 3) := by decide +kernel
theorem dX1_stands_15 : decode cX1_stands 15 = .ok (.iload_n 2, 1) := by decide +kernel
theorem dX1_stands_16 : decode cX1_stands 16 = .ok (.bipush 20, 2) := by decide +kernel
theorem dX1_stands_18 : decode cX1_stands 18 = .ok (.if_icmp .lt 9, 3) := by decide +kernel
theorem dX1_stands_21 : decode cX1_stands 21 = .ok (.aload_n 0, 1) := by decide +kernel
theorem dX1_stands_22 : decode cX1_stands 22 = .ok (.iconst (-1), 1) := by decide +kernel
theorem dX1_stands_23 : decode cX1_stands 23 = .ok (.invokevirtual 52, 3) := by decide +kernel
theorem dX1_stands_26 : decode cX1_stands 26 = .ok (.ireturn, 1) := by decide +kernel
theorem dX1_stands_27 : decode cX1_stands 27 = .ok (.aload_n 0, 1) := by decide +kernel
theorem dX1_stands_28 : decode cX1_stands 28 = .ok (.getfield 10, 3) := by decide +kernel
theorem dX1_stands_31 : decode cX1_stands 31 = .ok (.getfield 103, 3) := by decide +kernel
theorem dX1_stands_34 : decode cX1_stands 34 = .ok (.iload_n 1, 1) := by decide +kernel
theorem dX1_stands_35 : decode cX1_stands 35 = .ok (.iaload, 1) := by decide +kernel
theorem dX1_stands_36 : decode cX1_stands 36 = .ok (.istore_n 3, 1) := by decide +kernel
theorem dX1_stands_37 : decode cX1_stands 37 = .ok (.aload_n 0, 1) := by decide +kernel
theorem dX1_stands_38 : decode cX1_stands 38 = .ok (.getfield 10, 3) := by decide +kernel
theorem dX1_stands_41 : decode cX1_stands 41 = .ok (.getfield 103, 3) := by decide +kernel
theorem dX1_stands_44 : decode cX1_stands 44 = .ok (.iload_n 1, 1) := by decide +kernel
theorem dX1_stands_45 : decode cX1_stands 45 = .ok (.iload_n 2, 1) := by decide +kernel
theorem dX1_stands_46 : decode cX1_stands 46 = .ok (.iastore, 1) := by decide +kernel
theorem dX1_stands_47 : decode cX1_stands 47 = .ok (.iload_n 3, 1) := by decide +kernel
theorem dX1_stands_48 : decode cX1_stands 48 = .ok (.ireturn, 1) := by decide +kernel
set_option maxRecDepth 20000 in
theorem ggX1_turn_X0_hasRocket : GoodIn wsX1_turn wsX0_hasRocket := goodIn_r _ [8, 9, 31, 32, 33, 34, 35, 36, 37, 38, 39, 40, 41, 42] (by decide +kernel) (by decide +kernel)
set_option maxRecDepth 20000 in
theorem gX1_turn_X0_hasRocket : GoodIn wsX1_turn (wsV RX1 70 RX0 yX0_hasRocket wsX0_hasRocket) := goodIn_app (goodIn_of _ (by decide +kernel)) ggX1_turn_X0_hasRocket
set_option maxRecDepth 20000 in
theorem ggX1_turn_X1_refuse : GoodIn wsX1_turn wsX1_refuse := goodIn_r _ [14, 15, 19, 20, 21, 22, 23, 24, 25, 26, 27, 28, 29, 30] (by decide +kernel) (by decide +kernel)
set_option maxRecDepth 20000 in
theorem gX1_turn_X1_refuse : GoodIn wsX1_turn (wsV RX1 52 RX1 yX1_refuse wsX1_refuse) := goodIn_app (goodIn_of _ (by decide +kernel)) ggX1_turn_X1_refuse
set_option maxRecDepth 20000 in
theorem ggX1_turn_X1_outside : GoodIn wsX1_turn wsX1_outside := goodIn_r _ [18] (by decide +kernel) (by decide +kernel)
set_option maxRecDepth 20000 in
theorem gX1_turn_X1_outside : GoodIn wsX1_turn (va_wsS RX1 140 yX1_outside wsX1_outside) := goodIn_app (goodIn_of _ (by decide +kernel)) ggX1_turn_X1_outside
theorem dX1_turn_0 : decode cX1_turn 0 = .ok (.aload_n 0, 1) := by decide +kernel
theorem dX1_turn_1 : decode cX1_turn 1 = .ok (.getfield 10, 3) := by decide +kernel
theorem dX1_turn_4 : decode cX1_turn 4 = .ok (.iload_n 1, 1) := by decide +kernel
theorem dX1_turn_5 : decode cX1_turn 5 = .ok (.invokevirtual 70, 3) := by decide +kernel
theorem dX1_turn_8 : decode cX1_turn 8 = .ok (.ifCond .ne 9, 3) := by decide +kernel
theorem dX1_turn_11 : decode cX1_turn 11 = .ok (.aload_n 0, 1) := by decide +kernel
theorem dX1_turn_12 : decode cX1_turn 12 = .ok (.iconst (-1), 1) := by decide +kernel
theorem dX1_turn_13 : decode cX1_turn 13 = .ok (.invokevirtual 52, 3) := by decide +kernel
theorem dX1_turn_16 : decode cX1_turn 16 = .ok (.ireturn, 1) := by decide +kernel
theorem dX1_turn_17 : decode cX1_turn 17 = .ok (.iload_n 2, 1) := by decide +kernel
theorem dX1_turn_18 : decode cX1_turn 18 = .ok (.ifCond .lt 9, 3) := by decide +kernel
theorem dX1_turn_21 : decode cX1_turn 21 = .ok (.iload_n 2, 1) := by decide +kernel
theorem dX1_turn_22 : decode cX1_turn 22 = .ok (.bipush 6, 2) := by decide +kernel
theorem dX1_turn_24 : decode cX1_turn 24 = .ok (.if_icmp .lt 10, 3) := by decide +kernel
theorem dX1_turn_27 : decode cX1_turn 27 = .ok (.aload_n 0, 1) := by decide +kernel
theorem dX1_turn_28 : decode cX1_turn 28 = .ok (.bipush (-2), 2) := by decide +kernel
theorem dX1_turn_30 : decode cX1_turn 30 = .ok (.invokevirtual 52, 3) := by decide +kernel
theorem dX1_turn_33 : decode cX1_turn 33 = .ok (.ireturn, 1) := by decide +kernel
theorem dX1_turn_34 : decode cX1_turn 34 = .ok (.iload_n 3, 1) := by decide +kernel
theorem dX1_turn_35 : decode cX1_turn 35 = .ok (.iconst 0, 1) := by decide +kernel
theorem dX1_turn_36 : decode cX1_turn 36 = .ok (.bipush 9, 2) := by decide +kernel
theorem dX1_turn_38 : decode cX1_turn 38 = .ok (.invokestatic 140, 3) := by decide +kernel
theorem dX1_turn_41 : decode cX1_turn 41 = .ok (.istore 4, 2) := by decide +kernel
theorem dX1_turn_43 : decode cX1_turn 43 = .ok (.iload 4, 2) := by decide +kernel
theorem dX1_turn_45 : decode cX1_turn 45 = .ok (.ifCond .eq 10, 3) := by decide +kernel
theorem dX1_turn_48 : decode cX1_turn 48 = .ok (.aload_n 0, 1) := by decide +kernel
theorem dX1_turn_49 : decode cX1_turn 49 = .ok (.iload 4, 2) := by decide +kernel
theorem dX1_turn_51 : decode cX1_turn 51 = .ok (.invokevirtual 52, 3) := by decide +kernel
theorem dX1_turn_54 : decode cX1_turn 54 = .ok (.ireturn, 1) := by decide +kernel
theorem dX1_turn_55 : decode cX1_turn 55 = .ok (.bipush 10, 2) := by decide +kernel
theorem dX1_turn_57 : decode cX1_turn 57 = .ok (.aload_n 0, 1) := by decide +kernel
theorem dX1_turn_58 : decode cX1_turn 58 = .ok (.getfield 10, 3) := by decide +kernel
theorem dX1_turn_61 : decode cX1_turn 61 = .ok (.getfield 73, 3) := by decide +kernel
theorem dX1_turn_64 : decode cX1_turn 64 = .ok (.iload_n 1, 1) := by decide +kernel
theorem dX1_turn_65 : decode cX1_turn 65 = .ok (.iaload, 1) := by decide +kernel
theorem dX1_turn_66 : decode cX1_turn 66 = .ok (.imul, 1) := by decide +kernel
theorem dX1_turn_67 : decode cX1_turn 67 = .ok (.aload_n 0, 1) := by decide +kernel
theorem dX1_turn_68 : decode cX1_turn 68 = .ok (.getfield 10, 3) := by decide +kernel
theorem dX1_turn_71 : decode cX1_turn 71 = .ok (.getfield 76, 3) := by decide +kernel
theorem dX1_turn_74 : decode cX1_turn 74 = .ok (.iload_n 1, 1) := by decide +kernel
theorem dX1_turn_75 : decode cX1_turn 75 = .ok (.iaload, 1) := by decide +kernel
theorem dX1_turn_76 : decode cX1_turn 76 = .ok (.iadd, 1) := by decide +kernel
theorem dX1_turn_77 : decode cX1_turn 77 = .ok (.istore 5, 2) := by decide +kernel
theorem dX1_turn_79 : decode cX1_turn 79 = .ok (.aload_n 0, 1) := by decide +kernel
theorem dX1_turn_80 : decode cX1_turn 80 = .ok (.getfield 10, 3) := by decide +kernel
theorem dX1_turn_83 : decode cX1_turn 83 = .ok (.getfield 73, 3) := by decide +kernel
theorem dX1_turn_86 : decode cX1_turn 86 = .ok (.iload_n 1, 1) := by decide +kernel
theorem dX1_turn_87 : decode cX1_turn 87 = .ok (.iload_n 2, 1) := by decide +kernel
theorem dX1_turn_88 : decode cX1_turn 88 = .ok (.iastore, 1) := by decide +kernel
theorem dX1_turn_89 : decode cX1_turn 89 = .ok (.aload_n 0, 1) := by decide +kernel
theorem dX1_turn_90 : decode cX1_turn 90 = .ok (.getfield 10, 3) := by decide +kernel
theorem dX1_turn_93 : decode cX1_turn 93 = .ok (.getfield 76, 3) := by decide +kernel
theorem dX1_turn_96 : decode cX1_turn 96 = .ok (.iload_n 1, 1) := by decide +kernel
theorem dX1_turn_97 : decode cX1_turn 97 = .ok (.iload_n 3, 1) := by decide +kernel
theorem dX1_turn_98 : decode cX1_turn 98 = .ok (.iastore, 1) := by decide +kernel
theorem dX1_turn_99 : decode cX1_turn 99 = .ok (.iload 5, 2) := by decide +kernel
theorem dX1_turn_101 : decode cX1_turn 101 = .ok (.ireturn, 1) := by decide +kernel
set_option maxRecDepth 20000 in
theorem ggX1_nights_X1_outside : GoodIn wsX1_nights wsX1_outside := goodIn_r _ [7] (by decide +kernel) (by decide +kernel)
set_option maxRecDepth 20000 in
theorem gX1_nights_X1_outside : GoodIn wsX1_nights (va_wsS RX1 140 yX1_outside wsX1_outside) := goodIn_app (goodIn_of _ (by decide +kernel)) ggX1_nights_X1_outside
set_option maxRecDepth 20000 in
theorem ggX1_nights_X1_refuse : GoodIn wsX1_nights wsX1_refuse := goodIn_r _ [11, 12, 74, 75, 76, 77, 78, 79, 80, 81, 82, 83, 84, 85] (by decide +kernel) (by decide +kernel)
set_option maxRecDepth 20000 in
theorem gX1_nights_X1_refuse : GoodIn wsX1_nights (wsV RX1 52 RX1 yX1_refuse wsX1_refuse) := goodIn_app (goodIn_of _ (by decide +kernel)) ggX1_nights_X1_refuse
set_option maxRecDepth 20000 in
theorem ggX1_nights_X0_passNights : GoodIn wsX1_nights wsX0_passNights := goodIn_r _ [17, 18, 19, 20, 21, 16, 22, 23, 24, 25, 26, 27, 28, 29, 30, 31, 32, 33, 34, 35, 36, 37, 38, 39, 40, 41, 42, 43, 44, 45, 46, 47, 48, 49, 50, 51, 52, 53, 54, 55, 56, 57, 58, 59, 60, 61, 62, 63, 64, 65, 66, 67, 68, 69, 70, 71, 72, 73, 86, 87, 88, 89, 90, 91, 92, 93, 94, 95, 96, 97] (by decide +kernel) (by decide +kernel)
set_option maxRecDepth 20000 in
theorem gX1_nights_X0_passNights : GoodIn wsX1_nights (wsV RX1 150 RX0 yX0_passNights wsX0_passNights) := goodIn_app (goodIn_of _ (by decide +kernel)) ggX1_nights_X0_passNights
theorem dX1_nights_0 : decode cX1_nights 0 = .ok (.iload_n 1, 1) := by decide +kernel
theorem dX1_nights_1 : decode cX1_nights 1 = .ok (.iconst 1, 1) := by decide +kernel
theorem dX1_nights_2 : decode cX1_nights 2 = .ok (.bipush 60, 2) := by decide +kernel
theorem dX1_nights_4 : decode cX1_nights 4 = .ok (.invokestatic 140, 3) := by decide +kernel
theorem dX1_nights_7 : decode cX1_nights 7 = .ok (.istore_n 2, 1) := by decide +kernel
theorem dX1_nights_8 : decode cX1_nights 8 = .ok (.iload_n 2, 1) := by decide +kernel
theorem dX1_nights_9 : decode cX1_nights 9 = .ok (.ifCond .eq 9, 3) := by decide +kernel
theorem dX1_nights_12 : decode cX1_nights 12 = .ok (.aload_n 0, 1) := by decide +kernel
theorem dX1_nights_13 : decode cX1_nights 13 = .ok (.iload_n 2, 1) := by decide +kernel
theorem dX1_nights_14 : decode cX1_nights 14 = .ok (.invokevirtual 52, 3) := by decide +kernel
theorem dX1_nights_17 : decode cX1_nights 17 = .ok (.ireturn, 1) := by decide +kernel
theorem dX1_nights_18 : decode cX1_nights 18 = .ok (.aload_n 0, 1) := by decide +kernel
theorem dX1_nights_19 : decode cX1_nights 19 = .ok (.getfield 10, 3) := by decide +kernel
theorem dX1_nights_22 : decode cX1_nights 22 = .ok (.getfield 147, 3) := by decide +kernel
theorem dX1_nights_25 : decode cX1_nights 25 = .ok (.iload_n 1, 1) := by decide +kernel
theorem dX1_nights_26 : decode cX1_nights 26 = .ok (.iadd, 1) := by decide +kernel
theorem dX1_nights_27 : decode cX1_nights 27 = .ok (.sipush 999, 3) := by decide +kernel
theorem dX1_nights_30 : decode cX1_nights 30 = .ok (.if_icmp .le 10, 3) := by decide +kernel
theorem dX1_nights_33 : decode cX1_nights 33 = .ok (.aload_n 0, 1) := by decide +kernel
theorem dX1_nights_34 : decode cX1_nights 34 = .ok (.bipush (-6), 2) := by decide +kernel
theorem dX1_nights_36 : decode cX1_nights 36 = .ok (.invokevirtual 52, 3) := by decide +kernel
theorem dX1_nights_39 : decode cX1_nights 39 = .ok (.ireturn, 1) := by decide +kernel
theorem dX1_nights_40 : decode cX1_nights 40 = .ok (.aload_n 0, 1) := by decide +kernel
theorem dX1_nights_41 : decode cX1_nights 41 = .ok (.getfield 10, 3) := by decide +kernel
theorem dX1_nights_44 : decode cX1_nights 44 = .ok (.iload_n 1, 1) := by decide +kernel
theorem dX1_nights_45 : decode cX1_nights 45 = .ok (.bipush 31, 2) := by decide +kernel
theorem dX1_nights_47 : decode cX1_nights 47 = .ok (.invokevirtual 150, 3) := by decide +kernel
theorem dX1_nights_50 : decode cX1_nights 50 = .ok (.aload_n 0, 1) := by decide +kernel
theorem dX1_nights_51 : decode cX1_nights 51 = .ok (.getfield 10, 3) := by decide +kernel
theorem dX1_nights_54 : decode cX1_nights 54 = .ok (.getfield 122, 3) := by decide +kernel
theorem dX1_nights_57 : decode cX1_nights 57 = .ok (.ireturn, 1) := by decide +kernel
set_option maxRecDepth 20000 in
theorem ggX1_wordsThen_X0_hasReader : GoodIn wsX1_wordsThen wsX0_hasReader := goodIn_r _ [7, 8, 105, 106, 107, 108, 109, 110, 111, 112, 113, 114, 115, 116] (by decide +kernel) (by decide +kernel)
set_option maxRecDepth 20000 in
theorem gX1_wordsThen_X0_hasReader : GoodIn wsX1_wordsThen (wsV RX1 100 RX0 yX0_hasReader wsX0_hasReader) := goodIn_app (goodIn_of _ (by decide +kernel)) ggX1_wordsThen_X0_hasReader
set_option maxRecDepth 20000 in
theorem ggX1_wordsThen_X1_refuse : GoodIn wsX1_wordsThen wsX1_refuse := goodIn_r _ [13, 14, 93, 94, 95, 96, 97, 98, 99, 100, 101, 102, 103, 104] (by decide +kernel) (by decide +kernel)
set_option maxRecDepth 20000 in
theorem gX1_wordsThen_X1_refuse : GoodIn wsX1_wordsThen (wsV RX1 52 RX1 yX1_refuse wsX1_refuse) := goodIn_app (goodIn_of _ (by decide +kernel)) ggX1_wordsThen_X1_refuse
set_option maxRecDepth 20000 in
theorem ggX1_wordsThen_X1_outside : GoodIn wsX1_wordsThen wsX1_outside := goodIn_r _ [17] (by decide +kernel) (by decide +kernel)
set_option maxRecDepth 20000 in
theorem gX1_wordsThen_X1_outside : GoodIn wsX1_wordsThen (va_wsS RX1 140 yX1_outside wsX1_outside) := goodIn_app (goodIn_of _ (by decide +kernel)) ggX1_wordsThen_X1_outside
set_option maxRecDepth 20000 in
theorem ggX1_wordsThen_X1_thinkOn : GoodIn wsX1_wordsThen wsX1_thinkOn := goodIn_r _ [21, 2, 1, 22, 23, 24, 6, 25, 26, 27, 28, 29, 30, 31, 32, 33, 34, 8, 35, 36, 37, 38, 39, 40, 41, 42, 43, 44, 45, 46, 47, 48, 49, 50, 51, 52, 53, 54, 55, 56, 57, 58, 59, 60, 61, 62, 63, 64, 65, 66, 67, 68, 69, 70, 71, 72, 73, 74, 75, 76, 77, 78, 79, 80, 81, 82, 83, 84, 85, 86, 87, 88, 93, 94, 95, 96, 97, 98, 99, 100, 101, 102, 103, 104, 105, 106, 107, 108, 109, 110, 111, 112, 113, 114, 115, 116] (by decide +kernel) (by decide +kernel)
set_option maxRecDepth 20000 in
theorem gX1_wordsThen_X1_thinkOn : GoodIn wsX1_wordsThen (wsV RX1 153 RX1 yX1_thinkOn wsX1_thinkOn) := goodIn_app (goodIn_of _ (by decide +kernel)) ggX1_wordsThen_X1_thinkOn
set_option maxRecDepth 20000 in
theorem ggX1_wordsThen_X0_wordsOf : GoodIn wsX1_wordsThen wsX0_wordsOf := goodIn_r _ [92, 37, 105, 106, 107, 108, 109, 110, 111, 112, 113, 114, 115, 116] (by decide +kernel) (by decide +kernel)
set_option maxRecDepth 20000 in
theorem gX1_wordsThen_X0_wordsOf : GoodIn wsX1_wordsThen (wsV RX1 109 RX0 yX0_wordsOf wsX0_wordsOf) := goodIn_app (goodIn_of _ (by decide +kernel)) ggX1_wordsThen_X0_wordsOf
theorem dX1_wordsThen_0 : decode cX1_wordsThen 0 = .ok (.aload_n 0, 1) := by decide +kernel
theorem dX1_wordsThen_1 : decode cX1_wordsThen 1 = .ok (.getfield 10, 3) := by decide +kernel
theorem dX1_wordsThen_4 : decode cX1_wordsThen 4 = .ok (.iload_n 1, 1) := by decide +kernel
theorem dX1_wordsThen_5 : decode cX1_wordsThen 5 = .ok (.invokevirtual 100, 3) := by decide +kernel
theorem dX1_wordsThen_8 : decode cX1_wordsThen 8 = .ok (.ifCond .ne 9, 3) := by decide +kernel
theorem dX1_wordsThen_11 : decode cX1_wordsThen 11 = .ok (.aload_n 0, 1) := by decide +kernel
theorem dX1_wordsThen_12 : decode cX1_wordsThen 12 = .ok (.iconst (-1), 1) := by decide +kernel
theorem dX1_wordsThen_13 : decode cX1_wordsThen 13 = .ok (.invokevirtual 52, 3) := by decide +kernel
theorem dX1_wordsThen_16 : decode cX1_wordsThen 16 = .ok (.ireturn, 1) := by decide +kernel
theorem dX1_wordsThen_17 : decode cX1_wordsThen 17 = .ok (.iload_n 2, 1) := by decide +kernel
theorem dX1_wordsThen_18 : decode cX1_wordsThen 18 = .ok (.iconst 0, 1) := by decide +kernel
theorem dX1_wordsThen_19 : decode cX1_wordsThen 19 = .ok (.bipush 60, 2) := by decide +kernel
theorem dX1_wordsThen_21 : decode cX1_wordsThen 21 = .ok (.invokestatic 140, 3) := by decide +kernel
theorem dX1_wordsThen_24 : decode cX1_wordsThen 24 = .ok (.istore_n 3, 1) := by decide +kernel
theorem dX1_wordsThen_25 : decode cX1_wordsThen 25 = .ok (.iload_n 3, 1) := by decide +kernel
theorem dX1_wordsThen_26 : decode cX1_wordsThen 26 = .ok (.ifCond .eq 9, 3) := by decide +kernel
theorem dX1_wordsThen_29 : decode cX1_wordsThen 29 = .ok (.aload_n 0, 1) := by decide +kernel
theorem dX1_wordsThen_30 : decode cX1_wordsThen 30 = .ok (.iload_n 3, 1) := by decide +kernel
theorem dX1_wordsThen_31 : decode cX1_wordsThen 31 = .ok (.invokevirtual 52, 3) := by decide +kernel
theorem dX1_wordsThen_34 : decode cX1_wordsThen 34 = .ok (.ireturn, 1) := by decide +kernel
theorem dX1_wordsThen_35 : decode cX1_wordsThen 35 = .ok (.aload_n 0, 1) := by decide +kernel
theorem dX1_wordsThen_36 : decode cX1_wordsThen 36 = .ok (.iload_n 2, 1) := by decide +kernel
theorem dX1_wordsThen_37 : decode cX1_wordsThen 37 = .ok (.invokevirtual 153, 3) := by decide +kernel
theorem dX1_wordsThen_40 : decode cX1_wordsThen 40 = .ok (.aload_n 0, 1) := by decide +kernel
theorem dX1_wordsThen_41 : decode cX1_wordsThen 41 = .ok (.getfield 16, 3) := by decide +kernel
