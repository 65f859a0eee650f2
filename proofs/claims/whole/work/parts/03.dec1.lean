theorem dX0_init_0 : decode cX0_init 0 = .ok (.aload_n 0, 1) := by decide +kernel
theorem dX0_init_1 : decode cX0_init 1 = .ok (.invokespecial 3, 3) := by decide +kernel
theorem dX0_init_4 : decode cX0_init 4 = .ok (.aload_n 0, 1) := by decide +kernel
theorem dX0_init_5 : decode cX0_init 5 = .ok (.iconst 0, 1) := by decide +kernel
theorem dX0_init_6 : decode cX0_init 6 = .ok (.putfield 9, 3) := by decide +kernel
theorem dX0_init_9 : decode cX0_init 9 = .ok (.aload_n 0, 1) := by decide +kernel
theorem dX0_init_10 : decode cX0_init 10 = .ok (.bipush 9, 2) := by decide +kernel
theorem dX0_init_12 : decode cX0_init 12 = .ok (.newarray .int, 2) := by decide +kernel
theorem dX0_init_14 : decode cX0_init 14 = .ok (.putfield 15, 3) := by decide +kernel
theorem dX0_init_17 : decode cX0_init 17 = .ok (.aload_n 0, 1) := by decide +kernel
theorem dX0_init_18 : decode cX0_init 18 = .ok (.bipush 9, 2) := by decide +kernel
theorem dX0_init_20 : decode cX0_init 20 = .ok (.newarray .int, 2) := by decide +kernel
theorem dX0_init_22 : decode cX0_init 22 = .ok (.putfield 19, 3) := by decide +kernel
theorem dX0_init_25 : decode cX0_init 25 = .ok (.aload_n 0, 1) := by decide +kernel
theorem dX0_init_26 : decode cX0_init 26 = .ok (.bipush 9, 2) := by decide +kernel
theorem dX0_init_28 : decode cX0_init 28 = .ok (.newarray .int, 2) := by decide +kernel
theorem dX0_init_30 : decode cX0_init 30 = .ok (.putfield 22, 3) := by decide +kernel
theorem dX0_init_33 : decode cX0_init 33 = .ok (.aload_n 0, 1) := by decide +kernel
theorem dX0_init_34 : decode cX0_init 34 = .ok (.iconst 0, 1) := by decide +kernel
theorem dX0_init_35 : decode cX0_init 35 = .ok (.putfield 25, 3) := by decide +kernel
theorem dX0_init_38 : decode cX0_init 38 = .ok (.aload_n 0, 1) := by decide +kernel
theorem dX0_init_39 : decode cX0_init 39 = .ok (.iconst 0, 1) := by decide +kernel
theorem dX0_init_40 : decode cX0_init 40 = .ok (.putfield 28, 3) := by decide +kernel
theorem dX0_init_43 : decode cX0_init 43 = .ok (.aload_n 0, 1) := by decide +kernel
theorem dX0_init_44 : decode cX0_init 44 = .ok (.iconst 5, 1) := by decide +kernel
theorem dX0_init_45 : decode cX0_init 45 = .ok (.newarray .int, 2) := by decide +kernel
theorem dX0_init_47 : decode cX0_init 47 = .ok (.putfield 31, 3) := by decide +kernel
theorem dX0_init_50 : decode cX0_init 50 = .ok (.aload_n 0, 1) := by decide +kernel
theorem dX0_init_51 : decode cX0_init 51 = .ok (.iconst 5, 1) := by decide +kernel
theorem dX0_init_52 : decode cX0_init 52 = .ok (.newarray .int, 2) := by decide +kernel
theorem dX0_init_54 : decode cX0_init 54 = .ok (.putfield 34, 3) := by decide +kernel
theorem dX0_init_57 : decode cX0_init 57 = .ok (.aload_n 0, 1) := by decide +kernel
theorem dX0_init_58 : decode cX0_init 58 = .ok (.bipush 30, 2) := by decide +kernel
theorem dX0_init_60 : decode cX0_init 60 = .ok (.newarray .int, 2) := by decide +kernel
theorem dX0_init_62 : decode cX0_init 62 = .ok (.putfield 37, 3) := by decide +kernel
theorem dX0_init_65 : decode cX0_init 65 = .ok (.aload_n 0, 1) := by decide +kernel
theorem dX0_init_66 : decode cX0_init 66 = .ok (.bipush 100, 2) := by decide +kernel
theorem dX0_init_68 : decode cX0_init 68 = .ok (.putfield 40, 3) := by decide +kernel
theorem dX0_init_71 : decode cX0_init 71 = .ok (.aload_n 0, 1) := by decide +kernel
theorem dX0_init_72 : decode cX0_init 72 = .ok (.iconst 5, 1) := by decide +kernel
theorem dX0_init_73 : decode cX0_init 73 = .ok (.putfield 43, 3) := by decide +kernel
theorem dX0_init_76 : decode cX0_init 76 = .ok (.aload_n 0, 1) := by decide +kernel
theorem dX0_init_77 : decode cX0_init 77 = .ok (.iconst 0, 1) := by decide +kernel
theorem dX0_init_78 : decode cX0_init 78 = .ok (.putfield 46, 3) := by decide +kernel
theorem dX0_init_81 : decode cX0_init 81 = .ok (.return_, 1) := by decide +kernel
theorem dX0_copyFrom_0 : decode cX0_copyFrom 0 = .ok (.aload_n 0, 1) := by decide +kernel
theorem dX0_copyFrom_1 : decode cX0_copyFrom 1 = .ok (.aload_n 1, 1) := by decide +kernel
theorem dX0_copyFrom_2 : decode cX0_copyFrom 2 = .ok (.getfield 9, 3) := by decide +kernel
theorem dX0_copyFrom_5 : decode cX0_copyFrom 5 = .ok (.putfield 9, 3) := by decide +kernel
theorem dX0_copyFrom_8 : decode cX0_copyFrom 8 = .ok (.aload_n 1, 1) := by decide +kernel
theorem dX0_copyFrom_9 : decode cX0_copyFrom 9 = .ok (.getfield 15, 3) := by decide +kernel
theorem dX0_copyFrom_12 : decode cX0_copyFrom 12 = .ok (.iconst 0, 1) := by decide +kernel
theorem dX0_copyFrom_13 : decode cX0_copyFrom 13 = .ok (.aload_n 0, 1) := by decide +kernel
theorem dX0_copyFrom_14 : decode cX0_copyFrom 14 = .ok (.getfield 15, 3) := by decide +kernel
theorem dX0_copyFrom_17 : decode cX0_copyFrom 17 = .ok (.iconst 0, 1) := by decide +kernel
theorem dX0_copyFrom_18 : decode cX0_copyFrom 18 = .ok (.bipush 9, 2) := by decide +kernel
theorem dX0_copyFrom_20 : decode cX0_copyFrom 20 = .ok (.invokestatic 49, 3) := by decide +kernel
theorem dX0_copyFrom_23 : decode cX0_copyFrom 23 = .ok (.aload_n 1, 1) := by decide +kernel
theorem dX0_copyFrom_24 : decode cX0_copyFrom 24 = .ok (.getfield 19, 3) := by decide +kernel
theorem dX0_copyFrom_27 : decode cX0_copyFrom 27 = .ok (.iconst 0, 1) := by decide +kernel
theorem dX0_copyFrom_28 : decode cX0_copyFrom 28 = .ok (.aload_n 0, 1) := by decide +kernel
theorem dX0_copyFrom_29 : decode cX0_copyFrom 29 = .ok (.getfield 19, 3) := by decide +kernel
theorem dX0_copyFrom_32 : decode cX0_copyFrom 32 = .ok (.iconst 0, 1) := by decide +kernel
theorem dX0_copyFrom_33 : decode cX0_copyFrom 33 = .ok (.bipush 9, 2) := by decide +kernel
theorem dX0_copyFrom_35 : decode cX0_copyFrom 35 = .ok (.invokestatic 49, 3) := by decide +kernel
theorem dX0_copyFrom_38 : decode cX0_copyFrom 38 = .ok (.aload_n 1, 1) := by decide +kernel
theorem dX0_copyFrom_39 : decode cX0_copyFrom 39 = .ok (.getfield 22, 3) := by decide +kernel
theorem dX0_copyFrom_42 : decode cX0_copyFrom 42 = .ok (.iconst 0, 1) := by decide +kernel
theorem dX0_copyFrom_43 : decode cX0_copyFrom 43 = .ok (.aload_n 0, 1) := by decide +kernel
theorem dX0_copyFrom_44 : decode cX0_copyFrom 44 = .ok (.getfield 22, 3) := by decide +kernel
theorem dX0_copyFrom_47 : decode cX0_copyFrom 47 = .ok (.iconst 0, 1) := by decide +kernel
theorem dX0_copyFrom_48 : decode cX0_copyFrom 48 = .ok (.bipush 9, 2) := by decide +kernel
theorem dX0_copyFrom_50 : decode cX0_copyFrom 50 = .ok (.invokestatic 49, 3) := by decide +kernel
theorem dX0_copyFrom_53 : decode cX0_copyFrom 53 = .ok (.aload_n 0, 1) := by decide +kernel
theorem dX0_copyFrom_54 : decode cX0_copyFrom 54 = .ok (.aload_n 1, 1) := by decide +kernel
theorem dX0_copyFrom_55 : decode cX0_copyFrom 55 = .ok (.getfield 25, 3) := by decide +kernel
theorem dX0_copyFrom_58 : decode cX0_copyFrom 58 = .ok (.putfield 25, 3) := by decide +kernel
theorem dX0_copyFrom_61 : decode cX0_copyFrom 61 = .ok (.aload_n 0, 1) := by decide +kernel
theorem dX0_copyFrom_62 : decode cX0_copyFrom 62 = .ok (.aload_n 1, 1) := by decide +kernel
theorem dX0_copyFrom_63 : decode cX0_copyFrom 63 = .ok (.getfield 28, 3) := by decide +kernel
theorem dX0_copyFrom_66 : decode cX0_copyFrom 66 = .ok (.putfield 28, 3) := by decide +kernel
theorem dX0_copyFrom_69 : decode cX0_copyFrom 69 = .ok (.aload_n 1, 1) := by decide +kernel
theorem dX0_copyFrom_70 : decode cX0_copyFrom 70 = .ok (.getfield 31, 3) := by decide +kernel
theorem dX0_copyFrom_73 : decode cX0_copyFrom 73 = .ok (.iconst 0, 1) := by decide +kernel
theorem dX0_copyFrom_74 : decode cX0_copyFrom 74 = .ok (.aload_n 0, 1) := by decide +kernel
theorem dX0_copyFrom_75 : decode cX0_copyFrom 75 = .ok (.getfield 31, 3) := by decide +kernel
theorem dX0_copyFrom_78 : decode cX0_copyFrom 78 = .ok (.iconst 0, 1) := by decide +kernel
theorem dX0_copyFrom_79 : decode cX0_copyFrom 79 = .ok (.iconst 5, 1) := by decide +kernel
theorem dX0_copyFrom_80 : decode cX0_copyFrom 80 = .ok (.invokestatic 49, 3) := by decide +kernel
theorem dX0_copyFrom_83 : decode cX0_copyFrom 83 = .ok (.aload_n 1, 1) := by decide +kernel
theorem dX0_copyFrom_84 : decode cX0_copyFrom 84 = .ok (.getfield 34, 3) := by decide +kernel
theorem dX0_copyFrom_87 : decode cX0_copyFrom 87 = .ok (.iconst 0, 1) := by decide +kernel
theorem dX0_copyFrom_88 : decode cX0_copyFrom 88 = .ok (.aload_n 0, 1) := by decide +kernel
theorem dX0_copyFrom_89 : decode cX0_copyFrom 89 = .ok (.getfield 34, 3) := by decide +kernel
theorem dX0_copyFrom_92 : decode cX0_copyFrom 92 = .ok (.iconst 0, 1) := by decide +kernel
theorem dX0_copyFrom_93 : decode cX0_copyFrom 93 = .ok (.iconst 5, 1) := by decide +kernel
theorem dX0_copyFrom_94 : decode cX0_copyFrom 94 = .ok (.invokestatic 49, 3) := by decide +kernel
theorem dX0_copyFrom_97 : decode cX0_copyFrom 97 = .ok (.aload_n 1, 1) := by decide +kernel
theorem dX0_copyFrom_98 : decode cX0_copyFrom 98 = .ok (.getfield 37, 3) := by decide +kernel
theorem dX0_copyFrom_101 : decode cX0_copyFrom 101 = .ok (.iconst 0, 1) := by decide +kernel
theorem dX0_copyFrom_102 : decode cX0_copyFrom 102 = .ok (.aload_n 0, 1) := by decide +kernel
theorem dX0_copyFrom_103 : decode cX0_copyFrom 103 = .ok (.getfield 37, 3) := by decide +kernel
theorem dX0_copyFrom_106 : decode cX0_copyFrom 106 = .ok (.iconst 0, 1) := by decide +kernel
theorem dX0_copyFrom_107 : decode cX0_copyFrom 107 = .ok (.bipush 30, 2) := by decide +kernel
theorem dX0_copyFrom_109 : decode cX0_copyFrom 109 = .ok (.invokestatic 49, 3) := by decide +kernel
theorem dX0_copyFrom_112 : decode cX0_copyFrom 112 = .ok (.aload_n 0, 1) := by decide +kernel
theorem dX0_copyFrom_113 : decode cX0_copyFrom 113 = .ok (.aload_n 1, 1) := by decide +kernel
theorem dX0_copyFrom_114 : decode cX0_copyFrom 114 = .ok (.getfield 40, 3) := by decide +kernel
theorem dX0_copyFrom_117 : decode cX0_copyFrom 117 = .ok (.putfield 40, 3) := by decide +kernel
theorem dX0_copyFrom_120 : decode cX0_copyFrom 120 = .ok (.aload_n 0, 1) := by decide +kernel
theorem dX0_copyFrom_121 : decode cX0_copyFrom 121 = .ok (.aload_n 1, 1) := by decide +kernel
theorem dX0_copyFrom_122 : decode cX0_copyFrom 122 = .ok (.getfield 43, 3) := by decide +kernel
theorem dX0_copyFrom_125 : decode cX0_copyFrom 125 = .ok (.putfield 43, 3) := by decide +kernel
theorem dX0_copyFrom_128 : decode cX0_copyFrom 128 = .ok (.aload_n 0, 1) := by decide +kernel
theorem dX0_copyFrom_129 : decode cX0_copyFrom 129 = .ok (.aload_n 1, 1) := by decide +kernel
theorem dX0_copyFrom_130 : decode cX0_copyFrom 130 = .ok (.getfield 46, 3) := by decide +kernel
theorem dX0_copyFrom_133 : decode cX0_copyFrom 133 = .ok (.putfield 46, 3) := by decide +kernel
theorem dX0_copyFrom_136 : decode cX0_copyFrom 136 = .ok (.return_, 1) := by decide +kernel
theorem dX0_hasRocket_0 : decode cX0_hasRocket 0 = .ok (.iload_n 1, 1) := by decide +kernel
theorem dX0_hasRocket_1 : decode cX0_hasRocket 1 = .ok (.ifCond .lt 15, 3) := by decide +kernel
theorem dX0_hasRocket_4 : decode cX0_hasRocket 4 = .ok (.iload_n 1, 1) := by decide +kernel
theorem dX0_hasRocket_5 : decode cX0_hasRocket 5 = .ok (.aload_n 0, 1) := by decide +kernel
theorem dX0_hasRocket_6 : decode cX0_hasRocket 6 = .ok (.getfield 9, 3) := by decide +kernel
theorem dX0_hasRocket_9 : decode cX0_hasRocket 9 = .ok (.if_icmp .ge 7, 3) := by decide +kernel
theorem dX0_hasRocket_12 : decode cX0_hasRocket 12 = .ok (.iconst 1, 1) := by decide +kernel
theorem dX0_hasRocket_13 : decode cX0_hasRocket 13 = .ok (.goto 4, 3) := by decide +kernel
theorem dX0_hasRocket_16 : decode cX0_hasRocket 16 = .ok (.iconst 0, 1) := by decide +kernel
theorem dX0_hasRocket_17 : decode cX0_hasRocket 17 = .ok (.ireturn, 1) := by decide +kernel
theorem dX0_hasReader_0 : decode cX0_hasReader 0 = .ok (.iload_n 1, 1) := by decide +kernel
theorem dX0_hasReader_1 : decode cX0_hasReader 1 = .ok (.ifCond .lt 15, 3) := by decide +kernel
theorem dX0_hasReader_4 : decode cX0_hasReader 4 = .ok (.iload_n 1, 1) := by decide +kernel
theorem dX0_hasReader_5 : decode cX0_hasReader 5 = .ok (.aload_n 0, 1) := by decide +kernel
theorem dX0_hasReader_6 : decode cX0_hasReader 6 = .ok (.getfield 28, 3) := by decide +kernel
theorem dX0_hasReader_9 : decode cX0_hasReader 9 = .ok (.if_icmp .ge 7, 3) := by decide +kernel
theorem dX0_hasReader_12 : decode cX0_hasReader 12 = .ok (.iconst 1, 1) := by decide +kernel
theorem dX0_hasReader_13 : decode cX0_hasReader 13 = .ok (.goto 4, 3) := by decide +kernel
theorem dX0_hasReader_16 : decode cX0_hasReader 16 = .ok (.iconst 0, 1) := by decide +kernel
theorem dX0_hasReader_17 : decode cX0_hasReader 17 = .ok (.ireturn, 1) := by decide +kernel
theorem dX0_addRocket_0 : decode cX0_addRocket 0 = .ok (.iload_n 1, 1) := by decide +kernel
theorem dX0_addRocket_1 : decode cX0_addRocket 1 = .ok (.ifCond .lt 23, 3) := by decide +kernel
theorem dX0_addRocket_4 : decode cX0_addRocket 4 = .ok (.iload_n 1, 1) := by decide +kernel
theorem dX0_addRocket_5 : decode cX0_addRocket 5 = .ok (.bipush 6, 2) := by decide +kernel
theorem dX0_addRocket_7 : decode cX0_addRocket 7 = .ok (.if_icmp .ge 17, 3) := by decide +kernel
theorem dX0_addRocket_10 : decode cX0_addRocket 10 = .ok (.iload_n 3, 1) := by decide +kernel
theorem dX0_addRocket_11 : decode cX0_addRocket 11 = .ok (.ifCond .lt 13, 3) := by decide +kernel
theorem dX0_addRocket_14 : decode cX0_addRocket 14 = .ok (.iload_n 3, 1) := by decide +kernel
theorem dX0_addRocket_15 : decode cX0_addRocket 15 = .ok (.bipush 6, 2) := by decide +kernel
theorem dX0_addRocket_17 : decode cX0_addRocket 17 = .ok (.if_icmp .ge 7, 3) := by decide +kernel
theorem dX0_addRocket_20 : decode cX0_addRocket 20 = .ok (.iconst 1, 1) := by decide +kernel
theorem dX0_addRocket_21 : decode cX0_addRocket 21 = .ok (.goto 4, 3) := by decide +kernel
theorem dX0_addRocket_24 : decode cX0_addRocket 24 = .ok (.iconst 0, 1) := by decide +kernel
theorem dX0_addRocket_25 : decode cX0_addRocket 25 = .ok (.istore 4, 2) := by decide +kernel
theorem dX0_addRocket_27 : decode cX0_addRocket 27 = .ok (.iload 4, 2) := by decide +kernel
theorem dX0_addRocket_29 : decode cX0_addRocket 29 = .ok (.ifCond .eq 12, 3) := by decide +kernel
theorem dX0_addRocket_32 : decode cX0_addRocket 32 = .ok (.aload_n 0, 1) := by decide +kernel
theorem dX0_addRocket_33 : decode cX0_addRocket 33 = .ok (.getfield 9, 3) := by decide +kernel
theorem dX0_addRocket_36 : decode cX0_addRocket 36 = .ok (.bipush 9, 2) := by decide +kernel
theorem dX0_addRocket_38 : decode cX0_addRocket 38 = .ok (.if_icmp .lt 5, 3) := by decide +kernel
theorem dX0_addRocket_41 : decode cX0_addRocket 41 = .ok (.iconst 0, 1) := by decide +kernel
theorem dX0_addRocket_42 : decode cX0_addRocket 42 = .ok (.ireturn, 1) := by decide +kernel
theorem dX0_addRocket_43 : decode cX0_addRocket 43 = .ok (.aload_n 0, 1) := by decide +kernel
theorem dX0_addRocket_44 : decode cX0_addRocket 44 = .ok (.getfield 15, 3) := by decide +kernel
theorem dX0_addRocket_47 : decode cX0_addRocket 47 = .ok (.aload_n 0, 1) := by decide +kernel
theorem dX0_addRocket_48 : decode cX0_addRocket 48 = .ok (.getfield 9, 3) := by decide +kernel
theorem dX0_addRocket_51 : decode cX0_addRocket 51 = .ok (.iload_n 1, 1) := by decide +kernel
theorem dX0_addRocket_52 : decode cX0_addRocket 52 = .ok (.iastore, 1) := by decide +kernel
theorem dX0_addRocket_53 : decode cX0_addRocket 53 = .ok (.aload_n 0, 1) := by decide +kernel
theorem dX0_addRocket_54 : decode cX0_addRocket 54 = .ok (.getfield 19, 3) := by decide +kernel
theorem dX0_addRocket_57 : decode cX0_addRocket 57 = .ok (.aload_n 0, 1) := by decide +kernel
theorem dX0_addRocket_58 : decode cX0_addRocket 58 = .ok (.getfield 9, 3) := by decide +kernel
theorem dX0_addRocket_61 : decode cX0_addRocket 61 = .ok (.iload_n 2, 1) := by decide +kernel
theorem dX0_addRocket_62 : decode cX0_addRocket 62 = .ok (.iastore, 1) := by decide +kernel
theorem dX0_addRocket_63 : decode cX0_addRocket 63 = .ok (.aload_n 0, 1) := by decide +kernel
theorem dX0_addRocket_64 : decode cX0_addRocket 64 = .ok (.getfield 22, 3) := by decide +kernel
theorem dX0_addRocket_67 : decode cX0_addRocket 67 = .ok (.aload_n 0, 1) := by decide +kernel
theorem dX0_addRocket_68 : decode cX0_addRocket 68 = .ok (.getfield 9, 3) := by decide +kernel
theorem dX0_addRocket_71 : decode cX0_addRocket 71 = .ok (.iload_n 3, 1) := by decide +kernel
theorem dX0_addRocket_72 : decode cX0_addRocket 72 = .ok (.iastore, 1) := by decide +kernel
theorem dX0_addRocket_73 : decode cX0_addRocket 73 = .ok (.aload_n 0, 1) := by decide +kernel
theorem dX0_addRocket_74 : decode cX0_addRocket 74 = .ok (.dup, 1) := by decide +kernel
theorem dX0_addRocket_75 : decode cX0_addRocket 75 = .ok (.getfield 9, 3) := by decide +kernel
theorem dX0_addRocket_78 : decode cX0_addRocket 78 = .ok (.iconst 1, 1) := by decide +kernel
theorem dX0_addRocket_79 : decode cX0_addRocket 79 = .ok (.iadd, 1) := by decide +kernel
theorem dX0_addRocket_80 : decode cX0_addRocket 80 = .ok (.putfield 9, 3) := by decide +kernel
theorem dX0_addRocket_83 : decode cX0_addRocket 83 = .ok (.iconst 1, 1) := by decide +kernel
theorem dX0_addRocket_84 : decode cX0_addRocket 84 = .ok (.ireturn, 1) := by decide +kernel
theorem dX0_addReader_0 : decode cX0_addReader 0 = .ok (.iload_n 1, 1) := by decide +kernel
theorem dX0_addReader_1 : decode cX0_addReader 1 = .ok (.ifCond .lt 17, 3) := by decide +kernel
theorem dX0_addReader_4 : decode cX0_addReader 4 = .ok (.iload_n 1, 1) := by decide +kernel
theorem dX0_addReader_5 : decode cX0_addReader 5 = .ok (.bipush 20, 2) := by decide +kernel
theorem dX0_addReader_7 : decode cX0_addReader 7 = .ok (.if_icmp .ge 11, 3) := by decide +kernel
theorem dX0_addReader_10 : decode cX0_addReader 10 = .ok (.aload_n 0, 1) := by decide +kernel
theorem dX0_addReader_11 : decode cX0_addReader 11 = .ok (.getfield 28, 3) := by decide +kernel
theorem dX0_addReader_14 : decode cX0_addReader 14 = .ok (.iconst 5, 1) := by decide +kernel
theorem dX0_addReader_15 : decode cX0_addReader 15 = .ok (.if_icmp .lt 5, 3) := by decide +kernel
theorem dX0_addReader_18 : decode cX0_addReader 18 = .ok (.iconst 0, 1) := by decide +kernel
theorem dX0_addReader_19 : decode cX0_addReader 19 = .ok (.ireturn, 1) := by decide +kernel
theorem dX0_addReader_20 : decode cX0_addReader 20 = .ok (.aload_n 0, 1) := by decide +kernel
theorem dX0_addReader_21 : decode cX0_addReader 21 = .ok (.getfield 31, 3) := by decide +kernel
theorem dX0_addReader_24 : decode cX0_addReader 24 = .ok (.aload_n 0, 1) := by decide +kernel
theorem dX0_addReader_25 : decode cX0_addReader 25 = .ok (.getfield 28, 3) := by decide +kernel
theorem dX0_addReader_28 : decode cX0_addReader 28 = .ok (.iload_n 1, 1) := by decide +kernel
theorem dX0_addReader_29 : decode cX0_addReader 29 = .ok (.iastore, 1) := by decide +kernel
theorem dX0_addReader_30 : decode cX0_addReader 30 = .ok (.aload_n 0, 1) := by decide +kernel
theorem dX0_addReader_31 : decode cX0_addReader 31 = .ok (.getfield 34, 3) := by decide +kernel
theorem dX0_addReader_34 : decode cX0_addReader 34 = .ok (.aload_n 0, 1) := by decide +kernel
theorem dX0_addReader_35 : decode cX0_addReader 35 = .ok (.getfield 28, 3) := by decide +kernel
theorem dX0_addReader_38 : decode cX0_addReader 38 = .ok (.iload_n 2, 1) := by decide +kernel
theorem dX0_addReader_39 : decode cX0_addReader 39 = .ok (.iastore, 1) := by decide +kernel
theorem dX0_addReader_40 : decode cX0_addReader 40 = .ok (.aload_n 0, 1) := by decide +kernel
theorem dX0_addReader_41 : decode cX0_addReader 41 = .ok (.dup, 1) := by decide +kernel
theorem dX0_addReader_42 : decode cX0_addReader 42 = .ok (.getfield 28, 3) := by decide +kernel
theorem dX0_addReader_45 : decode cX0_addReader 45 = .ok (.iconst 1, 1) := by decide +kernel
theorem dX0_addReader_46 : decode cX0_addReader 46 = .ok (.iadd, 1) := by decide +kernel
theorem dX0_addReader_47 : decode cX0_addReader 47 = .ok (.putfield 28, 3) := by decide +kernel
theorem dX0_addReader_50 : decode cX0_addReader 50 = .ok (.iconst 1, 1) := by decide +kernel
theorem dX0_addReader_51 : decode cX0_addReader 51 = .ok (.ireturn, 1) := by decide +kernel
theorem dX0_isSent_0 : decode cX0_isSent 0 = .ok (.aload_n 0, 1) := by decide +kernel
theorem dX0_isSent_1 : decode cX0_isSent 1 = .ok (.getfield 25, 3) := by decide +kernel
theorem dX0_isSent_4 : decode cX0_isSent 4 = .ok (.iload_n 1, 1) := by decide +kernel
theorem dX0_isSent_5 : decode cX0_isSent 5 = .ok (.ishr, 1) := by decide +kernel
theorem dX0_isSent_6 : decode cX0_isSent 6 = .ok (.iconst 1, 1) := by decide +kernel
theorem dX0_isSent_7 : decode cX0_isSent 7 = .ok (.iand, 1) := by decide +kernel
theorem dX0_isSent_8 : decode cX0_isSent 8 = .ok (.iconst 1, 1) := by decide +kernel
theorem dX0_isSent_9 : decode cX0_isSent 9 = .ok (.if_icmp .ne 7, 3) := by decide +kernel
theorem dX0_isSent_12 : decode cX0_isSent 12 = .ok (.iconst 1, 1) := by decide +kernel
theorem dX0_isSent_13 : decode cX0_isSent 13 = .ok (.goto 4, 3) := by decide +kernel
theorem dX0_isSent_16 : decode cX0_isSent 16 = .ok (.iconst 0, 1) := by decide +kernel
theorem dX0_isSent_17 : decode cX0_isSent 17 = .ok (.ireturn, 1) := by decide +kernel
theorem dX0_costOf_0 : decode cX0_costOf 0 = .ok (.getstatic 55, 3) := by decide +kernel
theorem dX0_costOf_3 : decode cX0_costOf 3 = .ok (.aload_n 0, 1) := by decide +kernel
theorem dX0_costOf_4 : decode cX0_costOf 4 = .ok (.getfield 15, 3) := by decide +kernel
theorem dX0_costOf_7 : decode cX0_costOf 7 = .ok (.iload_n 1, 1) := by decide +kernel
theorem dX0_costOf_8 : decode cX0_costOf 8 = .ok (.iaload, 1) := by decide +kernel
theorem dX0_costOf_9 : decode cX0_costOf 9 = .ok (.iaload, 1) := by decide +kernel
theorem dX0_costOf_10 : decode cX0_costOf 10 = .ok (.ireturn, 1) := by decide +kernel
theorem dX0_reachOf_0 : decode cX0_reachOf 0 = .ok (.aload_n 0, 1) := by decide +kernel
theorem dX0_reachOf_1 : decode cX0_reachOf 1 = .ok (.getfield 19, 3) := by decide +kernel
theorem dX0_reachOf_4 : decode cX0_reachOf 4 = .ok (.iload_n 1, 1) := by decide +kernel
theorem dX0_reachOf_5 : decode cX0_reachOf 5 = .ok (.iaload, 1) := by decide +kernel
theorem dX0_reachOf_6 : decode cX0_reachOf 6 = .ok (.iconst 2, 1) := by decide +kernel
theorem dX0_reachOf_7 : decode cX0_reachOf 7 = .ok (.idiv, 1) := by decide +kernel
theorem dX0_reachOf_8 : decode cX0_reachOf 8 = .ok (.iconst 2, 1) := by decide +kernel
theorem dX0_reachOf_9 : decode cX0_reachOf 9 = .ok (.iadd, 1) := by decide +kernel
theorem dX0_reachOf_10 : decode cX0_reachOf 10 = .ok (.istore_n 2, 1) := by decide +kernel
theorem dX0_reachOf_11 : decode cX0_reachOf 11 = .ok (.aload_n 0, 1) := by decide +kernel
theorem dX0_reachOf_12 : decode cX0_reachOf 12 = .ok (.getfield 15, 3) := by decide +kernel
theorem dX0_reachOf_15 : decode cX0_reachOf 15 = .ok (.iload_n 1, 1) := by decide +kernel
theorem dX0_reachOf_16 : decode cX0_reachOf 16 = .ok (.iaload, 1) := by decide +kernel
theorem dX0_reachOf_17 : decode cX0_reachOf 17 = .ok (.tableswitch 57 1 5 #[35, 43, 47, 39, 51], 35) := by decide +kernel
theorem dX0_reachOf_52 : decode cX0_reachOf 52 = .ok (.iload_n 2, 1) := by decide +kernel
theorem dX0_reachOf_53 : decode cX0_reachOf 53 = .ok (.iconst 2, 1) := by decide +kernel
theorem dX0_reachOf_54 : decode cX0_reachOf 54 = .ok (.idiv, 1) := by decide +kernel
theorem dX0_reachOf_55 : decode cX0_reachOf 55 = .ok (.ireturn, 1) := by decide +kernel
theorem dX0_reachOf_56 : decode cX0_reachOf 56 = .ok (.iload_n 2, 1) := by decide +kernel
theorem dX0_reachOf_57 : decode cX0_reachOf 57 = .ok (.iconst 2, 1) := by decide +kernel
theorem dX0_reachOf_58 : decode cX0_reachOf 58 = .ok (.idiv, 1) := by decide +kernel
theorem dX0_reachOf_59 : decode cX0_reachOf 59 = .ok (.ireturn, 1) := by decide +kernel
theorem dX0_reachOf_60 : decode cX0_reachOf 60 = .ok (.iload_n 2, 1) := by decide +kernel
theorem dX0_reachOf_61 : decode cX0_reachOf 61 = .ok (.iconst 3, 1) := by decide +kernel
theorem dX0_reachOf_62 : decode cX0_reachOf 62 = .ok (.iadd, 1) := by decide +kernel
theorem dX0_reachOf_63 : decode cX0_reachOf 63 = .ok (.ireturn, 1) := by decide +kernel
theorem dX0_reachOf_64 : decode cX0_reachOf 64 = .ok (.iload_n 2, 1) := by decide +kernel
theorem dX0_reachOf_65 : decode cX0_reachOf 65 = .ok (.iconst 3, 1) := by decide +kernel
theorem dX0_reachOf_66 : decode cX0_reachOf 66 = .ok (.iadd, 1) := by decide +kernel
theorem dX0_reachOf_67 : decode cX0_reachOf 67 = .ok (.ireturn, 1) := by decide +kernel
theorem dX0_reachOf_68 : decode cX0_reachOf 68 = .ok (.iconst 2, 1) := by decide +kernel
theorem dX0_reachOf_69 : decode cX0_reachOf 69 = .ok (.iload_n 2, 1) := by decide +kernel
theorem dX0_reachOf_70 : decode cX0_reachOf 70 = .ok (.iconst 3, 1) := by decide +kernel
theorem dX0_reachOf_71 : decode cX0_reachOf 71 = .ok (.iadd, 1) := by decide +kernel
theorem dX0_reachOf_72 : decode cX0_reachOf 72 = .ok (.imul, 1) := by decide +kernel
theorem dX0_reachOf_73 : decode cX0_reachOf 73 = .ok (.ireturn, 1) := by decide +kernel
theorem dX0_reachOf_74 : decode cX0_reachOf 74 = .ok (.iload_n 2, 1) := by decide +kernel
theorem dX0_reachOf_75 : decode cX0_reachOf 75 = .ok (.ireturn, 1) := by decide +kernel
theorem dX0_darkOf_0 : decode cX0_darkOf 0 = .ok (.aload_n 0, 1) := by decide +kernel
theorem dX0_darkOf_1 : decode cX0_darkOf 1 = .ok (.getfield 19, 3) := by decide +kernel
theorem dX0_darkOf_4 : decode cX0_darkOf 4 = .ok (.iload_n 1, 1) := by decide +kernel
theorem dX0_darkOf_5 : decode cX0_darkOf 5 = .ok (.iaload, 1) := by decide +kernel
theorem dX0_darkOf_6 : decode cX0_darkOf 6 = .ok (.iconst 1, 1) := by decide +kernel
theorem dX0_darkOf_7 : decode cX0_darkOf 7 = .ok (.iadd, 1) := by decide +kernel
theorem dX0_darkOf_8 : decode cX0_darkOf 8 = .ok (.istore_n 2, 1) := by decide +kernel
theorem dX0_darkOf_9 : decode cX0_darkOf 9 = .ok (.aload_n 0, 1) := by decide +kernel
theorem dX0_darkOf_10 : decode cX0_darkOf 10 = .ok (.getfield 15, 3) := by decide +kernel
theorem dX0_darkOf_13 : decode cX0_darkOf 13 = .ok (.iload_n 1, 1) := by decide +kernel
theorem dX0_darkOf_14 : decode cX0_darkOf 14 = .ok (.iaload, 1) := by decide +kernel
theorem dX0_darkOf_15 : decode cX0_darkOf 15 = .ok (.tableswitch 50 1 5 #[33, 38, 42, 35, 46], 33) := by decide +kernel
theorem dX0_darkOf_48 : decode cX0_darkOf 48 = .ok (.iconst 0, 1) := by decide +kernel
theorem dX0_darkOf_49 : decode cX0_darkOf 49 = .ok (.ireturn, 1) := by decide +kernel
theorem dX0_darkOf_50 : decode cX0_darkOf 50 = .ok (.bipush 9, 2) := by decide +kernel
theorem dX0_darkOf_52 : decode cX0_darkOf 52 = .ok (.ireturn, 1) := by decide +kernel
theorem dX0_darkOf_53 : decode cX0_darkOf 53 = .ok (.iconst 2, 1) := by decide +kernel
theorem dX0_darkOf_54 : decode cX0_darkOf 54 = .ok (.iload_n 2, 1) := by decide +kernel
theorem dX0_darkOf_55 : decode cX0_darkOf 55 = .ok (.imul, 1) := by decide +kernel
theorem dX0_darkOf_56 : decode cX0_darkOf 56 = .ok (.ireturn, 1) := by decide +kernel
theorem dX0_darkOf_57 : decode cX0_darkOf 57 = .ok (.iconst 2, 1) := by decide +kernel
theorem dX0_darkOf_58 : decode cX0_darkOf 58 = .ok (.iload_n 2, 1) := by decide +kernel
theorem dX0_darkOf_59 : decode cX0_darkOf 59 = .ok (.imul, 1) := by decide +kernel
theorem dX0_darkOf_60 : decode cX0_darkOf 60 = .ok (.ireturn, 1) := by decide +kernel
theorem dX0_darkOf_61 : decode cX0_darkOf 61 = .ok (.iconst 2, 1) := by decide +kernel
theorem dX0_darkOf_62 : decode cX0_darkOf 62 = .ok (.iload_n 2, 1) := by decide +kernel
theorem dX0_darkOf_63 : decode cX0_darkOf 63 = .ok (.imul, 1) := by decide +kernel
theorem dX0_darkOf_64 : decode cX0_darkOf 64 = .ok (.ireturn, 1) := by decide +kernel
theorem dX0_darkOf_65 : decode cX0_darkOf 65 = .ok (.iload_n 2, 1) := by decide +kernel
theorem dX0_darkOf_66 : decode cX0_darkOf 66 = .ok (.ireturn, 1) := by decide +kernel
theorem dX0_burstOf_0 : decode cX0_burstOf 0 = .ok (.aload_n 0, 1) := by decide +kernel
theorem dX0_burstOf_1 : decode cX0_burstOf 1 = .ok (.getfield 15, 3) := by decide +kernel
theorem dX0_burstOf_4 : decode cX0_burstOf 4 = .ok (.iload_n 1, 1) := by decide +kernel
theorem dX0_burstOf_5 : decode cX0_burstOf 5 = .ok (.iaload, 1) := by decide +kernel
theorem dX0_burstOf_6 : decode cX0_burstOf 6 = .ok (.iconst 3, 1) := by decide +kernel
theorem dX0_burstOf_7 : decode cX0_burstOf 7 = .ok (.if_icmp .eq 13, 3) := by decide +kernel
theorem dX0_burstOf_10 : decode cX0_burstOf 10 = .ok (.aload_n 0, 1) := by decide +kernel
theorem dX0_burstOf_11 : decode cX0_burstOf 11 = .ok (.getfield 15, 3) := by decide +kernel
theorem dX0_burstOf_14 : decode cX0_burstOf 14 = .ok (.iload_n 1, 1) := by decide +kernel
theorem dX0_burstOf_15 : decode cX0_burstOf 15 = .ok (.iaload, 1) := by decide +kernel
theorem dX0_burstOf_16 : decode cX0_burstOf 16 = .ok (.iconst 5, 1) := by decide +kernel
theorem dX0_burstOf_17 : decode cX0_burstOf 17 = .ok (.if_icmp .ne 7, 3) := by decide +kernel
theorem dX0_burstOf_20 : decode cX0_burstOf 20 = .ok (.iconst 1, 1) := by decide +kernel
theorem dX0_burstOf_21 : decode cX0_burstOf 21 = .ok (.goto 4, 3) := by decide +kernel
theorem dX0_burstOf_24 : decode cX0_burstOf 24 = .ok (.iconst 0, 1) := by decide +kernel
theorem dX0_burstOf_25 : decode cX0_burstOf 25 = .ok (.istore_n 2, 1) := by decide +kernel
theorem dX0_burstOf_26 : decode cX0_burstOf 26 = .ok (.aload_n 0, 1) := by decide +kernel
theorem dX0_burstOf_27 : decode cX0_burstOf 27 = .ok (.getfield 43, 3) := by decide +kernel
theorem dX0_burstOf_30 : decode cX0_burstOf 30 = .ok (.iconst 5, 1) := by decide +kernel
theorem dX0_burstOf_31 : decode cX0_burstOf 31 = .ok (.isub, 1) := by decide +kernel
theorem dX0_burstOf_32 : decode cX0_burstOf 32 = .ok (.istore_n 3, 1) := by decide +kernel
theorem dX0_burstOf_33 : decode cX0_burstOf 33 = .ok (.bipush 10, 2) := by decide +kernel
theorem dX0_burstOf_35 : decode cX0_burstOf 35 = .ok (.iload_n 2, 1) := by decide +kernel
theorem dX0_burstOf_36 : decode cX0_burstOf 36 = .ok (.ifCond .eq 9, 3) := by decide +kernel
theorem dX0_burstOf_39 : decode cX0_burstOf 39 = .ok (.iconst 3, 1) := by decide +kernel
theorem dX0_burstOf_40 : decode cX0_burstOf 40 = .ok (.iload_n 3, 1) := by decide +kernel
theorem dX0_burstOf_41 : decode cX0_burstOf 41 = .ok (.imul, 1) := by decide +kernel
theorem dX0_burstOf_42 : decode cX0_burstOf 42 = .ok (.goto 4, 3) := by decide +kernel
theorem dX0_burstOf_45 : decode cX0_burstOf 45 = .ok (.iload_n 3, 1) := by decide +kernel
theorem dX0_burstOf_46 : decode cX0_burstOf 46 = .ok (.iadd, 1) := by decide +kernel
theorem dX0_burstOf_47 : decode cX0_burstOf 47 = .ok (.istore 4, 2) := by decide +kernel
theorem dX0_burstOf_49 : decode cX0_burstOf 49 = .ok (.iload 4, 2) := by decide +kernel
theorem dX0_burstOf_51 : decode cX0_burstOf 51 = .ok (.ifCond .ge 5, 3) := by decide +kernel
theorem dX0_burstOf_54 : decode cX0_burstOf 54 = .ok (.iconst 0, 1) := by decide +kernel
theorem dX0_burstOf_55 : decode cX0_burstOf 55 = .ok (.ireturn, 1) := by decide +kernel
theorem dX0_burstOf_56 : decode cX0_burstOf 56 = .ok (.iload 4, 2) := by decide +kernel
theorem dX0_burstOf_58 : decode cX0_burstOf 58 = .ok (.bipush 20, 2) := by decide +kernel
theorem dX0_burstOf_60 : decode cX0_burstOf 60 = .ok (.if_icmp .lt 8, 3) := by decide +kernel
theorem dX0_burstOf_63 : decode cX0_burstOf 63 = .ok (.bipush 19, 2) := by decide +kernel
theorem dX0_burstOf_65 : decode cX0_burstOf 65 = .ok (.goto 5, 3) := by decide +kernel
theorem dX0_burstOf_68 : decode cX0_burstOf 68 = .ok (.iload 4, 2) := by decide +kernel
theorem dX0_burstOf_70 : decode cX0_burstOf 70 = .ok (.ireturn, 1) := by decide +kernel
theorem dX0_readersOf_0 : decode cX0_readersOf 0 = .ok (.aload_n 0, 1) := by decide +kernel
theorem dX0_readersOf_1 : decode cX0_readersOf 1 = .ok (.iload_n 1, 1) := by decide +kernel
theorem dX0_readersOf_2 : decode cX0_readersOf 2 = .ok (.invokevirtual 58, 3) := by decide +kernel
theorem dX0_readersOf_5 : decode cX0_readersOf 5 = .ok (.istore_n 2, 1) := by decide +kernel
theorem dX0_readersOf_6 : decode cX0_readersOf 6 = .ok (.aload_n 0, 1) := by decide +kernel
theorem dX0_readersOf_7 : decode cX0_readersOf 7 = .ok (.iload_n 1, 1) := by decide +kernel
theorem dX0_readersOf_8 : decode cX0_readersOf 8 = .ok (.invokevirtual 62, 3) := by decide +kernel
theorem dX0_readersOf_11 : decode cX0_readersOf 11 = .ok (.istore_n 3, 1) := by decide +kernel
theorem dX0_readersOf_12 : decode cX0_readersOf 12 = .ok (.iconst 0, 1) := by decide +kernel
theorem dX0_readersOf_13 : decode cX0_readersOf 13 = .ok (.istore 4, 2) := by decide +kernel
theorem dX0_readersOf_15 : decode cX0_readersOf 15 = .ok (.iconst 0, 1) := by decide +kernel
theorem dX0_readersOf_16 : decode cX0_readersOf 16 = .ok (.istore 5, 2) := by decide +kernel
theorem dX0_readersOf_18 : decode cX0_readersOf 18 = .ok (.iload 5, 2) := by decide +kernel
theorem dX0_readersOf_20 : decode cX0_readersOf 20 = .ok (.aload_n 0, 1) := by decide +kernel
theorem dX0_readersOf_21 : decode cX0_readersOf 21 = .ok (.getfield 28, 3) := by decide +kernel
theorem dX0_readersOf_24 : decode cX0_readersOf 24 = .ok (.if_icmp .ge 58, 3) := by decide +kernel
theorem dX0_readersOf_27 : decode cX0_readersOf 27 = .ok (.aload_n 0, 1) := by decide +kernel
theorem dX0_readersOf_28 : decode cX0_readersOf 28 = .ok (.getfield 31, 3) := by decide +kernel
theorem dX0_readersOf_31 : decode cX0_readersOf 31 = .ok (.iload 5, 2) := by decide +kernel
theorem dX0_readersOf_33 : decode cX0_readersOf 33 = .ok (.iaload, 1) := by decide +kernel
theorem dX0_readersOf_34 : decode cX0_readersOf 34 = .ok (.iload_n 2, 1) := by decide +kernel
theorem dX0_readersOf_35 : decode cX0_readersOf 35 = .ok (.if_icmp .ge 15, 3) := by decide +kernel
theorem dX0_readersOf_38 : decode cX0_readersOf 38 = .ok (.iload_n 2, 1) := by decide +kernel
theorem dX0_readersOf_39 : decode cX0_readersOf 39 = .ok (.aload_n 0, 1) := by decide +kernel
theorem dX0_readersOf_40 : decode cX0_readersOf 40 = .ok (.getfield 31, 3) := by decide +kernel
theorem dX0_readersOf_43 : decode cX0_readersOf 43 = .ok (.iload 5, 2) := by decide +kernel
theorem dX0_readersOf_45 : decode cX0_readersOf 45 = .ok (.iaload, 1) := by decide +kernel
theorem dX0_readersOf_46 : decode cX0_readersOf 46 = .ok (.isub, 1) := by decide +kernel
theorem dX0_readersOf_47 : decode cX0_readersOf 47 = .ok (.goto 12, 3) := by decide +kernel
theorem dX0_readersOf_50 : decode cX0_readersOf 50 = .ok (.aload_n 0, 1) := by decide +kernel
theorem dX0_readersOf_51 : decode cX0_readersOf 51 = .ok (.getfield 31, 3) := by decide +kernel
theorem dX0_readersOf_54 : decode cX0_readersOf 54 = .ok (.iload 5, 2) := by decide +kernel
theorem dX0_readersOf_56 : decode cX0_readersOf 56 = .ok (.iaload, 1) := by decide +kernel
theorem dX0_readersOf_57 : decode cX0_readersOf 57 = .ok (.iload_n 2, 1) := by decide +kernel
theorem dX0_readersOf_58 : decode cX0_readersOf 58 = .ok (.isub, 1) := by decide +kernel
theorem dX0_readersOf_59 : decode cX0_readersOf 59 = .ok (.istore 6, 2) := by decide +kernel
theorem dX0_readersOf_61 : decode cX0_readersOf 61 = .ok (.iload 6, 2) := by decide +kernel
theorem dX0_readersOf_63 : decode cX0_readersOf 63 = .ok (.iload_n 3, 1) := by decide +kernel
theorem dX0_readersOf_64 : decode cX0_readersOf 64 = .ok (.if_icmp .gt 12, 3) := by decide +kernel
theorem dX0_readersOf_67 : decode cX0_readersOf 67 = .ok (.iload 4, 2) := by decide +kernel
theorem dX0_readersOf_69 : decode cX0_readersOf 69 = .ok (.iconst 1, 1) := by decide +kernel
theorem dX0_readersOf_70 : decode cX0_readersOf 70 = .ok (.iload 5, 2) := by decide +kernel
theorem dX0_readersOf_72 : decode cX0_readersOf 72 = .ok (.ishl, 1) := by decide +kernel
theorem dX0_readersOf_73 : decode cX0_readersOf 73 = .ok (.ior, 1) := by decide +kernel
theorem dX0_readersOf_74 : decode cX0_readersOf 74 = .ok (.istore 4, 2) := by decide +kernel
theorem dX0_readersOf_76 : decode cX0_readersOf 76 = .ok (.iinc 5 1, 3) := by decide +kernel
theorem dX0_readersOf_79 : decode cX0_readersOf 79 = .ok (.goto (-61), 3) := by decide +kernel
theorem dX0_readersOf_82 : decode cX0_readersOf 82 = .ok (.iload 4, 2) := by decide +kernel
theorem dX0_readersOf_84 : decode cX0_readersOf 84 = .ok (.ireturn, 1) := by decide +kernel
theorem dX0_canSend_0 : decode cX0_canSend 0 = .ok (.aload_n 0, 1) := by decide +kernel
theorem dX0_canSend_1 : decode cX0_canSend 1 = .ok (.iload_n 1, 1) := by decide +kernel
theorem dX0_canSend_2 : decode cX0_canSend 2 = .ok (.invokevirtual 65, 3) := by decide +kernel
theorem dX0_canSend_5 : decode cX0_canSend 5 = .ok (.ifCond .eq 27, 3) := by decide +kernel
theorem dX0_canSend_8 : decode cX0_canSend 8 = .ok (.aload_n 0, 1) := by decide +kernel
theorem dX0_canSend_9 : decode cX0_canSend 9 = .ok (.iload_n 1, 1) := by decide +kernel
theorem dX0_canSend_10 : decode cX0_canSend 10 = .ok (.invokevirtual 69, 3) := by decide +kernel
theorem dX0_canSend_13 : decode cX0_canSend 13 = .ok (.ifCond .ne 19, 3) := by decide +kernel
theorem dX0_canSend_16 : decode cX0_canSend 16 = .ok (.aload_n 0, 1) := by decide +kernel
theorem dX0_canSend_17 : decode cX0_canSend 17 = .ok (.iload_n 1, 1) := by decide +kernel
theorem dX0_canSend_18 : decode cX0_canSend 18 = .ok (.invokevirtual 72, 3) := by decide +kernel
theorem dX0_canSend_21 : decode cX0_canSend 21 = .ok (.aload_n 0, 1) := by decide +kernel
theorem dX0_canSend_22 : decode cX0_canSend 22 = .ok (.getfield 40, 3) := by decide +kernel
theorem dX0_canSend_25 : decode cX0_canSend 25 = .ok (.if_icmp .gt 7, 3) := by decide +kernel
theorem dX0_canSend_28 : decode cX0_canSend 28 = .ok (.iconst 1, 1) := by decide +kernel
theorem dX0_canSend_29 : decode cX0_canSend 29 = .ok (.goto 4, 3) := by decide +kernel
theorem dX0_canSend_32 : decode cX0_canSend 32 = .ok (.iconst 0, 1) := by decide +kernel
theorem dX0_canSend_33 : decode cX0_canSend 33 = .ok (.ireturn, 1) := by decide +kernel
theorem dX0_sendUp_0 : decode cX0_sendUp 0 = .ok (.aload_n 0, 1) := by decide +kernel
theorem dX0_sendUp_1 : decode cX0_sendUp 1 = .ok (.dup, 1) := by decide +kernel
theorem dX0_sendUp_2 : decode cX0_sendUp 2 = .ok (.getfield 40, 3) := by decide +kernel
theorem dX0_sendUp_5 : decode cX0_sendUp 5 = .ok (.aload_n 0, 1) := by decide +kernel
theorem dX0_sendUp_6 : decode cX0_sendUp 6 = .ok (.iload_n 1, 1) := by decide +kernel
theorem dX0_sendUp_7 : decode cX0_sendUp 7 = .ok (.invokevirtual 72, 3) := by decide +kernel
theorem dX0_sendUp_10 : decode cX0_sendUp 10 = .ok (.isub, 1) := by decide +kernel
theorem dX0_sendUp_11 : decode cX0_sendUp 11 = .ok (.putfield 40, 3) := by decide +kernel
theorem dX0_sendUp_14 : decode cX0_sendUp 14 = .ok (.aload_n 0, 1) := by decide +kernel
theorem dX0_sendUp_15 : decode cX0_sendUp 15 = .ok (.iload_n 1, 1) := by decide +kernel
theorem dX0_sendUp_16 : decode cX0_sendUp 16 = .ok (.invokevirtual 75, 3) := by decide +kernel
theorem dX0_sendUp_19 : decode cX0_sendUp 19 = .ok (.aload_n 0, 1) := by decide +kernel
theorem dX0_sendUp_20 : decode cX0_sendUp 20 = .ok (.iload_n 1, 1) := by decide +kernel
theorem dX0_sendUp_21 : decode cX0_sendUp 21 = .ok (.invokevirtual 79, 3) := by decide +kernel
theorem dX0_sendUp_24 : decode cX0_sendUp 24 = .ok (.iload_n 2, 1) := by decide +kernel
theorem dX0_sendUp_25 : decode cX0_sendUp 25 = .ok (.iand, 1) := by decide +kernel
theorem dX0_sendUp_26 : decode cX0_sendUp 26 = .ok (.istore_n 3, 1) := by decide +kernel
theorem dX0_sendUp_27 : decode cX0_sendUp 27 = .ok (.iconst 0, 1) := by decide +kernel
theorem dX0_sendUp_28 : decode cX0_sendUp 28 = .ok (.istore 4, 2) := by decide +kernel
theorem dX0_sendUp_30 : decode cX0_sendUp 30 = .ok (.iload 4, 2) := by decide +kernel
theorem dX0_sendUp_32 : decode cX0_sendUp 32 = .ok (.aload_n 0, 1) := by decide +kernel
theorem dX0_sendUp_33 : decode cX0_sendUp 33 = .ok (.getfield 28, 3) := by decide +kernel
theorem dX0_sendUp_36 : decode cX0_sendUp 36 = .ok (.if_icmp .ge 80, 3) := by decide +kernel
theorem dX0_sendUp_39 : decode cX0_sendUp 39 = .ok (.iload 4, 2) := by decide +kernel
theorem dX0_sendUp_41 : decode cX0_sendUp 41 = .ok (.bipush 6, 2) := by decide +kernel
theorem dX0_sendUp_43 : decode cX0_sendUp 43 = .ok (.imul, 1) := by decide +kernel
theorem dX0_sendUp_44 : decode cX0_sendUp 44 = .ok (.aload_n 0, 1) := by decide +kernel
theorem dX0_sendUp_45 : decode cX0_sendUp 45 = .ok (.getfield 22, 3) := by decide +kernel
theorem dX0_sendUp_48 : decode cX0_sendUp 48 = .ok (.iload_n 1, 1) := by decide +kernel
theorem dX0_sendUp_49 : decode cX0_sendUp 49 = .ok (.iaload, 1) := by decide +kernel
theorem dX0_sendUp_50 : decode cX0_sendUp 50 = .ok (.iadd, 1) := by decide +kernel
theorem dX0_sendUp_51 : decode cX0_sendUp 51 = .ok (.istore 5, 2) := by decide +kernel
theorem dX0_sendUp_53 : decode cX0_sendUp 53 = .ok (.aload_n 0, 1) := by decide +kernel
theorem dX0_sendUp_54 : decode cX0_sendUp 54 = .ok (.getfield 34, 3) := by decide +kernel
theorem dX0_sendUp_57 : decode cX0_sendUp 57 = .ok (.iload 4, 2) := by decide +kernel
theorem dX0_sendUp_59 : decode cX0_sendUp 59 = .ok (.iaload, 1) := by decide +kernel
theorem dX0_sendUp_60 : decode cX0_sendUp 60 = .ok (.bipush 9, 2) := by decide +kernel
theorem dX0_sendUp_62 : decode cX0_sendUp 62 = .ok (.if_icmp .ne 8, 3) := by decide +kernel
theorem dX0_sendUp_65 : decode cX0_sendUp 65 = .ok (.bipush 99, 2) := by decide +kernel
theorem dX0_sendUp_67 : decode cX0_sendUp 67 = .ok (.goto 10, 3) := by decide +kernel
theorem dX0_sendUp_70 : decode cX0_sendUp 70 = .ok (.aload_n 0, 1) := by decide +kernel
theorem dX0_sendUp_71 : decode cX0_sendUp 71 = .ok (.getfield 34, 3) := by decide +kernel
theorem dX0_sendUp_74 : decode cX0_sendUp 74 = .ok (.iload 4, 2) := by decide +kernel
theorem dX0_sendUp_76 : decode cX0_sendUp 76 = .ok (.iaload, 1) := by decide +kernel
theorem dX0_sendUp_77 : decode cX0_sendUp 77 = .ok (.istore 6, 2) := by decide +kernel
theorem dX0_sendUp_79 : decode cX0_sendUp 79 = .ok (.iload_n 3, 1) := by decide +kernel
theorem dX0_sendUp_80 : decode cX0_sendUp 80 = .ok (.iload 4, 2) := by decide +kernel
theorem dX0_sendUp_82 : decode cX0_sendUp 82 = .ok (.ishr, 1) := by decide +kernel
theorem dX0_sendUp_83 : decode cX0_sendUp 83 = .ok (.iconst 1, 1) := by decide +kernel
theorem dX0_sendUp_84 : decode cX0_sendUp 84 = .ok (.iand, 1) := by decide +kernel
theorem dX0_sendUp_85 : decode cX0_sendUp 85 = .ok (.iconst 1, 1) := by decide +kernel
theorem dX0_sendUp_86 : decode cX0_sendUp 86 = .ok (.if_icmp .ne 24, 3) := by decide +kernel
theorem dX0_sendUp_89 : decode cX0_sendUp 89 = .ok (.iload 6, 2) := by decide +kernel
theorem dX0_sendUp_91 : decode cX0_sendUp 91 = .ok (.aload_n 0, 1) := by decide +kernel
theorem dX0_sendUp_92 : decode cX0_sendUp 92 = .ok (.getfield 37, 3) := by decide +kernel
theorem dX0_sendUp_95 : decode cX0_sendUp 95 = .ok (.iload 5, 2) := by decide +kernel
theorem dX0_sendUp_97 : decode cX0_sendUp 97 = .ok (.iaload, 1) := by decide +kernel
theorem dX0_sendUp_98 : decode cX0_sendUp 98 = .ok (.if_icmp .le 12, 3) := by decide +kernel
theorem dX0_sendUp_101 : decode cX0_sendUp 101 = .ok (.aload_n 0, 1) := by decide +kernel
theorem dX0_sendUp_102 : decode cX0_sendUp 102 = .ok (.getfield 37, 3) := by decide +kernel
theorem dX0_sendUp_105 : decode cX0_sendUp 105 = .ok (.iload 5, 2) := by decide +kernel
theorem dX0_sendUp_107 : decode cX0_sendUp 107 = .ok (.iload 6, 2) := by decide +kernel
theorem dX0_sendUp_109 : decode cX0_sendUp 109 = .ok (.iastore, 1) := by decide +kernel
theorem dX0_sendUp_110 : decode cX0_sendUp 110 = .ok (.iinc 4 1, 3) := by decide +kernel
theorem dX0_sendUp_113 : decode cX0_sendUp 113 = .ok (.goto (-83), 3) := by decide +kernel
theorem dX0_sendUp_116 : decode cX0_sendUp 116 = .ok (.return_, 1) := by decide +kernel
theorem dX0_throwAway_0 : decode cX0_throwAway 0 = .ok (.aload_n 0, 1) := by decide +kernel
theorem dX0_throwAway_1 : decode cX0_throwAway 1 = .ok (.dup, 1) := by decide +kernel
theorem dX0_throwAway_2 : decode cX0_throwAway 2 = .ok (.getfield 25, 3) := by decide +kernel
theorem dX0_throwAway_5 : decode cX0_throwAway 5 = .ok (.iconst 1, 1) := by decide +kernel
theorem dX0_throwAway_6 : decode cX0_throwAway 6 = .ok (.iload_n 1, 1) := by decide +kernel
theorem dX0_throwAway_7 : decode cX0_throwAway 7 = .ok (.ishl, 1) := by decide +kernel
theorem dX0_throwAway_8 : decode cX0_throwAway 8 = .ok (.ior, 1) := by decide +kernel
theorem dX0_throwAway_9 : decode cX0_throwAway 9 = .ok (.putfield 25, 3) := by decide +kernel
theorem dX0_throwAway_12 : decode cX0_throwAway 12 = .ok (.return_, 1) := by decide +kernel
theorem dX0_putBack_0 : decode cX0_putBack 0 = .ok (.aload_n 0, 1) := by decide +kernel
theorem dX0_putBack_1 : decode cX0_putBack 1 = .ok (.dup, 1) := by decide +kernel
theorem dX0_putBack_2 : decode cX0_putBack 2 = .ok (.getfield 25, 3) := by decide +kernel
theorem dX0_putBack_5 : decode cX0_putBack 5 = .ok (.iconst 1, 1) := by decide +kernel
theorem dX0_putBack_6 : decode cX0_putBack 6 = .ok (.iload_n 1, 1) := by decide +kernel
theorem dX0_putBack_7 : decode cX0_putBack 7 = .ok (.ishl, 1) := by decide +kernel
theorem dX0_putBack_8 : decode cX0_putBack 8 = .ok (.iconst (-1), 1) := by decide +kernel
theorem dX0_putBack_9 : decode cX0_putBack 9 = .ok (.ixor, 1) := by decide +kernel
theorem dX0_putBack_10 : decode cX0_putBack 10 = .ok (.iand, 1) := by decide +kernel
theorem dX0_putBack_11 : decode cX0_putBack 11 = .ok (.putfield 25, 3) := by decide +kernel
theorem dX0_putBack_14 : decode cX0_putBack 14 = .ok (.return_, 1) := by decide +kernel
theorem dX0_upNext_0 : decode cX0_upNext 0 = .ok (.iconst 0, 1) := by decide +kernel
theorem dX0_upNext_1 : decode cX0_upNext 1 = .ok (.istore_n 1, 1) := by decide +kernel
theorem dX0_upNext_2 : decode cX0_upNext 2 = .ok (.iload_n 1, 1) := by decide +kernel
theorem dX0_upNext_3 : decode cX0_upNext 3 = .ok (.aload_n 0, 1) := by decide +kernel
theorem dX0_upNext_4 : decode cX0_upNext 4 = .ok (.getfield 9, 3) := by decide +kernel
theorem dX0_upNext_7 : decode cX0_upNext 7 = .ok (.if_icmp .ge 19, 3) := by decide +kernel
theorem dX0_upNext_10 : decode cX0_upNext 10 = .ok (.aload_n 0, 1) := by decide +kernel
theorem dX0_upNext_11 : decode cX0_upNext 11 = .ok (.iload_n 1, 1) := by decide +kernel
theorem dX0_upNext_12 : decode cX0_upNext 12 = .ok (.invokevirtual 82, 3) := by decide +kernel
theorem dX0_upNext_15 : decode cX0_upNext 15 = .ok (.ifCond .eq 5, 3) := by decide +kernel
theorem dX0_upNext_18 : decode cX0_upNext 18 = .ok (.iload_n 1, 1) := by decide +kernel
theorem dX0_upNext_19 : decode cX0_upNext 19 = .ok (.ireturn, 1) := by decide +kernel
theorem dX0_upNext_20 : decode cX0_upNext 20 = .ok (.iinc 1 1, 3) := by decide +kernel
theorem dX0_upNext_23 : decode cX0_upNext 23 = .ok (.goto (-21), 3) := by decide +kernel
theorem dX0_upNext_26 : decode cX0_upNext 26 = .ok (.bipush (-9), 2) := by decide +kernel
theorem dX0_upNext_28 : decode cX0_upNext 28 = .ok (.ireturn, 1) := by decide +kernel
theorem dX0_passNights_0 : decode cX0_passNights 0 = .ok (.iconst 0, 1) := by decide +kernel
theorem dX0_passNights_1 : decode cX0_passNights 1 = .ok (.istore_n 3, 1) := by decide +kernel
theorem dX0_passNights_2 : decode cX0_passNights 2 = .ok (.iload_n 3, 1) := by decide +kernel
theorem dX0_passNights_3 : decode cX0_passNights 3 = .ok (.iload_n 1, 1) := by decide +kernel
theorem dX0_passNights_4 : decode cX0_passNights 4 = .ok (.if_icmp .ge 43, 3) := by decide +kernel
theorem dX0_passNights_7 : decode cX0_passNights 7 = .ok (.aload_n 0, 1) := by decide +kernel
theorem dX0_passNights_8 : decode cX0_passNights 8 = .ok (.dup, 1) := by decide +kernel
theorem dX0_passNights_9 : decode cX0_passNights 9 = .ok (.getfield 46, 3) := by decide +kernel
theorem dX0_passNights_12 : decode cX0_passNights 12 = .ok (.iconst 1, 1) := by decide +kernel
theorem dX0_passNights_13 : decode cX0_passNights 13 = .ok (.iadd, 1) := by decide +kernel
theorem dX0_passNights_14 : decode cX0_passNights 14 = .ok (.putfield 46, 3) := by decide +kernel
theorem dX0_passNights_17 : decode cX0_passNights 17 = .ok (.aload_n 0, 1) := by decide +kernel
theorem dX0_passNights_18 : decode cX0_passNights 18 = .ok (.invokevirtual 85, 3) := by decide +kernel
theorem dX0_passNights_21 : decode cX0_passNights 21 = .ok (.aload_n 0, 1) := by decide +kernel
theorem dX0_passNights_22 : decode cX0_passNights 22 = .ok (.invokevirtual 88, 3) := by decide +kernel
theorem dX0_passNights_25 : decode cX0_passNights 25 = .ok (.istore 4, 2) := by decide +kernel
theorem dX0_passNights_27 : decode cX0_passNights 27 = .ok (.iload 4, 2) := by decide +kernel
theorem dX0_passNights_29 : decode cX0_passNights 29 = .ok (.bipush (-9), 2) := by decide +kernel
theorem dX0_passNights_31 : decode cX0_passNights 31 = .ok (.if_icmp .eq 10, 3) := by decide +kernel
theorem dX0_passNights_34 : decode cX0_passNights 34 = .ok (.aload_n 0, 1) := by decide +kernel
theorem dX0_passNights_35 : decode cX0_passNights 35 = .ok (.iload 4, 2) := by decide +kernel
theorem dX0_passNights_37 : decode cX0_passNights 37 = .ok (.iload_n 2, 1) := by decide +kernel
theorem dX0_passNights_38 : decode cX0_passNights 38 = .ok (.invokevirtual 92, 3) := by decide +kernel
theorem dX0_passNights_41 : decode cX0_passNights 41 = .ok (.iinc 3 1, 3) := by decide +kernel
theorem dX0_passNights_44 : decode cX0_passNights 44 = .ok (.goto (-42), 3) := by decide +kernel
theorem dX0_passNights_47 : decode cX0_passNights 47 = .ok (.return_, 1) := by decide +kernel
theorem dX0_forget_0 : decode cX0_forget 0 = .ok (.iconst 0, 1) := by decide +kernel
theorem dX0_forget_1 : decode cX0_forget 1 = .ok (.istore_n 1, 1) := by decide +kernel
theorem dX0_forget_2 : decode cX0_forget 2 = .ok (.iload_n 1, 1) := by decide +kernel
theorem dX0_forget_3 : decode cX0_forget 3 = .ok (.aload_n 0, 1) := by decide +kernel
theorem dX0_forget_4 : decode cX0_forget 4 = .ok (.getfield 28, 3) := by decide +kernel
theorem dX0_forget_7 : decode cX0_forget 7 = .ok (.bipush 6, 2) := by decide +kernel
theorem dX0_forget_9 : decode cX0_forget 9 = .ok (.imul, 1) := by decide +kernel
theorem dX0_forget_10 : decode cX0_forget 10 = .ok (.if_icmp .ge 39, 3) := by decide +kernel
theorem dX0_forget_13 : decode cX0_forget 13 = .ok (.aload_n 0, 1) := by decide +kernel
theorem dX0_forget_14 : decode cX0_forget 14 = .ok (.getfield 37, 3) := by decide +kernel
theorem dX0_forget_17 : decode cX0_forget 17 = .ok (.iload_n 1, 1) := by decide +kernel
theorem dX0_forget_18 : decode cX0_forget 18 = .ok (.iaload, 1) := by decide +kernel
theorem dX0_forget_19 : decode cX0_forget 19 = .ok (.ifCond .le 24, 3) := by decide +kernel
theorem dX0_forget_22 : decode cX0_forget 22 = .ok (.aload_n 0, 1) := by decide +kernel
theorem dX0_forget_23 : decode cX0_forget 23 = .ok (.getfield 37, 3) := by decide +kernel
theorem dX0_forget_26 : decode cX0_forget 26 = .ok (.iload_n 1, 1) := by decide +kernel
theorem dX0_forget_27 : decode cX0_forget 27 = .ok (.iaload, 1) := by decide +kernel
theorem dX0_forget_28 : decode cX0_forget 28 = .ok (.bipush 99, 2) := by decide +kernel
theorem dX0_forget_30 : decode cX0_forget 30 = .ok (.if_icmp .eq 13, 3) := by decide +kernel
theorem dX0_forget_33 : decode cX0_forget 33 = .ok (.aload_n 0, 1) := by decide +kernel
theorem dX0_forget_34 : decode cX0_forget 34 = .ok (.getfield 37, 3) := by decide +kernel
theorem dX0_forget_37 : decode cX0_forget 37 = .ok (.iload_n 1, 1) := by decide +kernel
theorem dX0_forget_38 : decode cX0_forget 38 = .ok (.dup2, 1) := by decide +kernel
theorem dX0_forget_39 : decode cX0_forget 39 = .ok (.iaload, 1) := by decide +kernel
theorem dX0_forget_40 : decode cX0_forget 40 = .ok (.iconst 1, 1) := by decide +kernel
theorem dX0_forget_41 : decode cX0_forget 41 = .ok (.isub, 1) := by decide +kernel
theorem dX0_forget_42 : decode cX0_forget 42 = .ok (.iastore, 1) := by decide +kernel
theorem dX0_forget_43 : decode cX0_forget 43 = .ok (.iinc 1 1, 3) := by decide +kernel
theorem dX0_forget_46 : decode cX0_forget 46 = .ok (.goto (-44), 3) := by decide +kernel
theorem dX0_forget_49 : decode cX0_forget 49 = .ok (.return_, 1) := by decide +kernel
theorem dX0_wordsOf_0 : decode cX0_wordsOf 0 = .ok (.iconst 0, 1) := by decide +kernel
theorem dX0_wordsOf_1 : decode cX0_wordsOf 1 = .ok (.istore_n 2, 1) := by decide +kernel
theorem dX0_wordsOf_2 : decode cX0_wordsOf 2 = .ok (.iconst 0, 1) := by decide +kernel
theorem dX0_wordsOf_3 : decode cX0_wordsOf 3 = .ok (.istore_n 3, 1) := by decide +kernel
theorem dX0_wordsOf_4 : decode cX0_wordsOf 4 = .ok (.iload_n 3, 1) := by decide +kernel
theorem dX0_wordsOf_5 : decode cX0_wordsOf 5 = .ok (.bipush 6, 2) := by decide +kernel
theorem dX0_wordsOf_7 : decode cX0_wordsOf 7 = .ok (.if_icmp .ge 29, 3) := by decide +kernel
theorem dX0_wordsOf_10 : decode cX0_wordsOf 10 = .ok (.aload_n 0, 1) := by decide +kernel
theorem dX0_wordsOf_11 : decode cX0_wordsOf 11 = .ok (.getfield 37, 3) := by decide +kernel
theorem dX0_wordsOf_14 : decode cX0_wordsOf 14 = .ok (.iload_n 1, 1) := by decide +kernel
theorem dX0_wordsOf_15 : decode cX0_wordsOf 15 = .ok (.bipush 6, 2) := by decide +kernel
theorem dX0_wordsOf_17 : decode cX0_wordsOf 17 = .ok (.imul, 1) := by decide +kernel
theorem dX0_wordsOf_18 : decode cX0_wordsOf 18 = .ok (.iload_n 3, 1) := by decide +kernel
theorem dX0_wordsOf_19 : decode cX0_wordsOf 19 = .ok (.iadd, 1) := by decide +kernel
theorem dX0_wordsOf_20 : decode cX0_wordsOf 20 = .ok (.iaload, 1) := by decide +kernel
theorem dX0_wordsOf_21 : decode cX0_wordsOf 21 = .ok (.ifCond .le 9, 3) := by decide +kernel
theorem dX0_wordsOf_24 : decode cX0_wordsOf 24 = .ok (.iload_n 2, 1) := by decide +kernel
theorem dX0_wordsOf_25 : decode cX0_wordsOf 25 = .ok (.iconst 1, 1) := by decide +kernel
theorem dX0_wordsOf_26 : decode cX0_wordsOf 26 = .ok (.iload_n 3, 1) := by decide +kernel
theorem dX0_wordsOf_27 : decode cX0_wordsOf 27 = .ok (.ishl, 1) := by decide +kernel
theorem dX0_wordsOf_28 : decode cX0_wordsOf 28 = .ok (.ior, 1) := by decide +kernel
theorem dX0_wordsOf_29 : decode cX0_wordsOf 29 = .ok (.istore_n 2, 1) := by decide +kernel
theorem dX0_wordsOf_30 : decode cX0_wordsOf 30 = .ok (.iinc 3 1, 3) := by decide +kernel
theorem dX0_wordsOf_33 : decode cX0_wordsOf 33 = .ok (.goto (-29), 3) := by decide +kernel
theorem dX0_wordsOf_36 : decode cX0_wordsOf 36 = .ok (.iload_n 2, 1) := by decide +kernel
theorem dX0_wordsOf_37 : decode cX0_wordsOf 37 = .ok (.ireturn, 1) := by decide +kernel
theorem dX0_isWhole_0 : decode cX0_isWhole 0 = .ok (.aload_n 0, 1) := by decide +kernel
theorem dX0_isWhole_1 : decode cX0_isWhole 1 = .ok (.iload_n 1, 1) := by decide +kernel
theorem dX0_isWhole_2 : decode cX0_isWhole 2 = .ok (.invokevirtual 96, 3) := by decide +kernel
theorem dX0_isWhole_5 : decode cX0_isWhole 5 = .ok (.bipush 63, 2) := by decide +kernel
theorem dX0_isWhole_7 : decode cX0_isWhole 7 = .ok (.if_icmp .ne 7, 3) := by decide +kernel
theorem dX0_isWhole_10 : decode cX0_isWhole 10 = .ok (.iconst 1, 1) := by decide +kernel
theorem dX0_isWhole_11 : decode cX0_isWhole 11 = .ok (.goto 4, 3) := by decide +kernel
theorem dX0_isWhole_14 : decode cX0_isWhole 14 = .ok (.iconst 0, 1) := by decide +kernel
theorem dX0_isWhole_15 : decode cX0_isWhole 15 = .ok (.ireturn, 1) := by decide +kernel
theorem dX0_countWhole_0 : decode cX0_countWhole 0 = .ok (.iconst 0, 1) := by decide +kernel
theorem dX0_countWhole_1 : decode cX0_countWhole 1 = .ok (.istore_n 1, 1) := by decide +kernel
theorem dX0_countWhole_2 : decode cX0_countWhole 2 = .ok (.iconst 0, 1) := by decide +kernel
theorem dX0_countWhole_3 : decode cX0_countWhole 3 = .ok (.istore_n 2, 1) := by decide +kernel
theorem dX0_countWhole_4 : decode cX0_countWhole 4 = .ok (.iload_n 2, 1) := by decide +kernel
theorem dX0_countWhole_5 : decode cX0_countWhole 5 = .ok (.aload_n 0, 1) := by decide +kernel
theorem dX0_countWhole_6 : decode cX0_countWhole 6 = .ok (.getfield 28, 3) := by decide +kernel
theorem dX0_countWhole_9 : decode cX0_countWhole 9 = .ok (.if_icmp .ge 25, 3) := by decide +kernel
theorem dX0_countWhole_12 : decode cX0_countWhole 12 = .ok (.iload_n 1, 1) := by decide +kernel
theorem dX0_countWhole_13 : decode cX0_countWhole 13 = .ok (.aload_n 0, 1) := by decide +kernel
theorem dX0_countWhole_14 : decode cX0_countWhole 14 = .ok (.iload_n 2, 1) := by decide +kernel
theorem dX0_countWhole_15 : decode cX0_countWhole 15 = .ok (.invokevirtual 99, 3) := by decide +kernel
theorem dX0_countWhole_18 : decode cX0_countWhole 18 = .ok (.ifCond .eq 7, 3) := by decide +kernel
theorem dX0_countWhole_21 : decode cX0_countWhole 21 = .ok (.iconst 1, 1) := by decide +kernel
theorem dX0_countWhole_22 : decode cX0_countWhole 22 = .ok (.goto 4, 3) := by decide +kernel
theorem dX0_countWhole_25 : decode cX0_countWhole 25 = .ok (.iconst 0, 1) := by decide +kernel
theorem dX0_countWhole_26 : decode cX0_countWhole 26 = .ok (.iadd, 1) := by decide +kernel
theorem dX0_countWhole_27 : decode cX0_countWhole 27 = .ok (.istore_n 1, 1) := by decide +kernel
theorem dX0_countWhole_28 : decode cX0_countWhole 28 = .ok (.iinc 2 1, 3) := by decide +kernel
theorem dX0_countWhole_31 : decode cX0_countWhole 31 = .ok (.goto (-27), 3) := by decide +kernel
theorem dX0_countWhole_34 : decode cX0_countWhole 34 = .ok (.iload_n 1, 1) := by decide +kernel
theorem dX0_countWhole_35 : decode cX0_countWhole 35 = .ok (.ireturn, 1) := by decide +kernel
theorem dX0_countWords_0 : decode cX0_countWords 0 = .ok (.iconst 0, 1) := by decide +kernel
theorem dX0_countWords_1 : decode cX0_countWords 1 = .ok (.istore_n 1, 1) := by decide +kernel
theorem dX0_countWords_2 : decode cX0_countWords 2 = .ok (.iconst 0, 1) := by decide +kernel
theorem dX0_countWords_3 : decode cX0_countWords 3 = .ok (.istore_n 2, 1) := by decide +kernel
theorem dX0_countWords_4 : decode cX0_countWords 4 = .ok (.iload_n 2, 1) := by decide +kernel
theorem dX0_countWords_5 : decode cX0_countWords 5 = .ok (.aload_n 0, 1) := by decide +kernel
theorem dX0_countWords_6 : decode cX0_countWords 6 = .ok (.getfield 28, 3) := by decide +kernel
theorem dX0_countWords_9 : decode cX0_countWords 9 = .ok (.if_icmp .ge 20, 3) := by decide +kernel
theorem dX0_countWords_12 : decode cX0_countWords 12 = .ok (.iload_n 1, 1) := by decide +kernel
theorem dX0_countWords_13 : decode cX0_countWords 13 = .ok (.aload_n 0, 1) := by decide +kernel
theorem dX0_countWords_14 : decode cX0_countWords 14 = .ok (.iload_n 2, 1) := by decide +kernel
theorem dX0_countWords_15 : decode cX0_countWords 15 = .ok (.invokevirtual 96, 3) := by decide +kernel
theorem dX0_countWords_18 : decode cX0_countWords 18 = .ok (.invokestatic 102, 3) := by decide +kernel
theorem dX0_countWords_21 : decode cX0_countWords 21 = .ok (.iadd, 1) := by decide +kernel
theorem dX0_countWords_22 : decode cX0_countWords 22 = .ok (.istore_n 1, 1) := by decide +kernel
theorem dX0_countWords_23 : decode cX0_countWords 23 = .ok (.iinc 2 1, 3) := by decide +kernel
theorem dX0_countWords_26 : decode cX0_countWords 26 = .ok (.goto (-22), 3) := by decide +kernel
theorem dX0_countWords_29 : decode cX0_countWords 29 = .ok (.iload_n 1, 1) := by decide +kernel
theorem dX0_countWords_30 : decode cX0_countWords 30 = .ok (.ireturn, 1) := by decide +kernel
theorem dX1_init_0 : decode cX1_init 0 = .ok (.aload_n 0, 1) := by decide +kernel
theorem dX1_init_1 : decode cX1_init 1 = .ok (.invokespecial 1, 3) := by decide +kernel
theorem dX1_init_4 : decode cX1_init 4 = .ok (.aload_n 0, 1) := by decide +kernel
theorem dX1_init_5 : decode cX1_init 5 = .ok (.new 7, 3) := by decide +kernel
theorem dX1_init_8 : decode cX1_init 8 = .ok (.dup, 1) := by decide +kernel
theorem dX1_init_9 : decode cX1_init 9 = .ok (.invokespecial 9, 3) := by decide +kernel
theorem dX1_init_12 : decode cX1_init 12 = .ok (.putfield 10, 3) := by decide +kernel
theorem dX1_init_15 : decode cX1_init 15 = .ok (.aload_n 0, 1) := by decide +kernel
theorem dX1_init_16 : decode cX1_init 16 = .ok (.new 7, 3) := by decide +kernel
theorem dX1_init_19 : decode cX1_init 19 = .ok (.dup, 1) := by decide +kernel
theorem dX1_init_20 : decode cX1_init 20 = .ok (.invokespecial 9, 3) := by decide +kernel
theorem dX1_init_23 : decode cX1_init 23 = .ok (.putfield 16, 3) := by decide +kernel
theorem dX1_init_26 : decode cX1_init 26 = .ok (.aload_n 0, 1) := by decide +kernel
theorem dX1_init_27 : decode cX1_init 27 = .ok (.new 7, 3) := by decide +kernel
theorem dX1_init_30 : decode cX1_init 30 = .ok (.dup, 1) := by decide +kernel
theorem dX1_init_31 : decode cX1_init 31 = .ok (.invokespecial 9, 3) := by decide +kernel
theorem dX1_init_34 : decode cX1_init 34 = .ok (.putfield 19, 3) := by decide +kernel
theorem dX1_init_37 : decode cX1_init 37 = .ok (.aload_n 0, 1) := by decide +kernel
theorem dX1_init_38 : decode cX1_init 38 = .ok (.iconst 0, 1) := by decide +kernel
theorem dX1_init_39 : decode cX1_init 39 = .ok (.putfield 22, 3) := by decide +kernel
theorem dX1_init_42 : decode cX1_init 42 = .ok (.aload_n 0, 1) := by decide +kernel
theorem dX1_init_43 : decode cX1_init 43 = .ok (.bipush 96, 2) := by decide +kernel
theorem dX1_init_45 : decode cX1_init 45 = .ok (.newarray .int, 2) := by decide +kernel
theorem dX1_init_47 : decode cX1_init 47 = .ok (.putfield 26, 3) := by decide +kernel
theorem dX1_init_50 : decode cX1_init 50 = .ok (.aload_n 0, 1) := by decide +kernel
theorem dX1_init_51 : decode cX1_init 51 = .ok (.iconst 0, 1) := by decide +kernel
theorem dX1_init_52 : decode cX1_init 52 = .ok (.putfield 30, 3) := by decide +kernel
theorem dX1_init_55 : decode cX1_init 55 = .ok (.aload_n 0, 1) := by decide +kernel
theorem dX1_init_56 : decode cX1_init 56 = .ok (.bipush 16, 2) := by decide +kernel
theorem dX1_init_58 : decode cX1_init 58 = .ok (.newarray .int, 2) := by decide +kernel
theorem dX1_init_60 : decode cX1_init 60 = .ok (.putfield 34, 3) := by decide +kernel
theorem dX1_init_63 : decode cX1_init 63 = .ok (.aload_n 0, 1) := by decide +kernel
theorem dX1_init_64 : decode cX1_init 64 = .ok (.iconst 0, 1) := by decide +kernel
theorem dX1_init_65 : decode cX1_init 65 = .ok (.putfield 37, 3) := by decide +kernel
theorem dX1_init_68 : decode cX1_init 68 = .ok (.aload_n 0, 1) := by decide +kernel
theorem dX1_init_69 : decode cX1_init 69 = .ok (.bipush 7, 2) := by decide +kernel
theorem dX1_init_71 : decode cX1_init 71 = .ok (.newarray .int, 2) := by decide +kernel
theorem dX1_init_73 : decode cX1_init 73 = .ok (.putfield 40, 3) := by decide +kernel
theorem dX1_init_76 : decode cX1_init 76 = .ok (.aload_n 0, 1) := by decide +kernel
theorem dX1_init_77 : decode cX1_init 77 = .ok (.bipush 9, 2) := by decide +kernel
theorem dX1_init_79 : decode cX1_init 79 = .ok (.newarray .int, 2) := by decide +kernel
theorem dX1_init_81 : decode cX1_init 81 = .ok (.putfield 43, 3) := by decide +kernel
theorem dX1_init_84 : decode cX1_init 84 = .ok (.aload_n 0, 1) := by decide +kernel
theorem dX1_init_85 : decode cX1_init 85 = .ok (.iconst 4, 1) := by decide +kernel
theorem dX1_init_86 : decode cX1_init 86 = .ok (.newarray .int, 2) := by decide +kernel
theorem dX1_init_88 : decode cX1_init 88 = .ok (.putfield 46, 3) := by decide +kernel
theorem dX1_init_91 : decode cX1_init 91 = .ok (.aload_n 0, 1) := by decide +kernel
theorem dX1_init_92 : decode cX1_init 92 = .ok (.iconst 4, 1) := by decide +kernel
theorem dX1_init_93 : decode cX1_init 93 = .ok (.newarray .int, 2) := by decide +kernel
theorem dX1_init_95 : decode cX1_init 95 = .ok (.putfield 49, 3) := by decide +kernel
theorem dX1_init_98 : decode cX1_init 98 = .ok (.return_, 1) := by decide +kernel
theorem dX1_letter_0 : decode cX1_letter 0 = .ok (.iload_n 1, 1) := by decide +kernel
theorem dX1_letter_1 : decode cX1_letter 1 = .ok (.ifCond .ge 10, 3) := by decide +kernel
theorem dX1_letter_4 : decode cX1_letter 4 = .ok (.aload_n 0, 1) := by decide +kernel
theorem dX1_letter_5 : decode cX1_letter 5 = .ok (.bipush (-4), 2) := by decide +kernel
theorem dX1_letter_7 : decode cX1_letter 7 = .ok (.invokevirtual 52, 3) := by decide +kernel
theorem dX1_letter_10 : decode cX1_letter 10 = .ok (.ireturn, 1) := by decide +kernel
theorem dX1_letter_11 : decode cX1_letter 11 = .ok (.iload_n 1, 1) := by decide +kernel
theorem dX1_letter_12 : decode cX1_letter 12 = .ok (.sipush 255, 3) := by decide +kernel
theorem dX1_letter_15 : decode cX1_letter 15 = .ok (.if_icmp .gt 12, 3) := by decide +kernel
theorem dX1_letter_18 : decode cX1_letter 18 = .ok (.aload_n 0, 1) := by decide +kernel
theorem dX1_letter_19 : decode cX1_letter 19 = .ok (.getfield 30, 3) := by decide +kernel
theorem dX1_letter_22 : decode cX1_letter 22 = .ok (.bipush 96, 2) := by decide +kernel
theorem dX1_letter_24 : decode cX1_letter 24 = .ok (.if_icmp .lt 10, 3) := by decide +kernel
theorem dX1_letter_27 : decode cX1_letter 27 = .ok (.aload_n 0, 1) := by decide +kernel
theorem dX1_letter_28 : decode cX1_letter 28 = .ok (.bipush (-6), 2) := by decide +kernel
theorem dX1_letter_30 : decode cX1_letter 30 = .ok (.invokevirtual 52, 3) := by decide +kernel
theorem dX1_letter_33 : decode cX1_letter 33 = .ok (.ireturn, 1) := by decide +kernel
theorem dX1_letter_34 : decode cX1_letter 34 = .ok (.aload_n 0, 1) := by decide +kernel
theorem dX1_letter_35 : decode cX1_letter 35 = .ok (.getfield 26, 3) := by decide +kernel
theorem dX1_letter_38 : decode cX1_letter 38 = .ok (.aload_n 0, 1) := by decide +kernel
theorem dX1_letter_39 : decode cX1_letter 39 = .ok (.getfield 30, 3) := by decide +kernel
theorem dX1_letter_42 : decode cX1_letter 42 = .ok (.iload_n 1, 1) := by decide +kernel
theorem dX1_letter_43 : decode cX1_letter 43 = .ok (.iastore, 1) := by decide +kernel
theorem dX1_letter_44 : decode cX1_letter 44 = .ok (.aload_n 0, 1) := by decide +kernel
theorem dX1_letter_45 : decode cX1_letter 45 = .ok (.dup, 1) := by decide +kernel
theorem dX1_letter_46 : decode cX1_letter 46 = .ok (.getfield 30, 3) := by decide +kernel
theorem dX1_letter_49 : decode cX1_letter 49 = .ok (.iconst 1, 1) := by decide +kernel
theorem dX1_letter_50 : decode cX1_letter 50 = .ok (.iadd, 1) := by decide +kernel
theorem dX1_letter_51 : decode cX1_letter 51 = .ok (.putfield 30, 3) := by decide +kernel
theorem dX1_letter_54 : decode cX1_letter 54 = .ok (.aload_n 0, 1) := by decide +kernel
theorem dX1_letter_55 : decode cX1_letter 55 = .ok (.getfield 30, 3) := by decide +kernel
theorem dX1_letter_58 : decode cX1_letter 58 = .ok (.ireturn, 1) := by decide +kernel
theorem dX1_valley_0 : decode cX1_valley 0 = .ok (.aload_n 0, 1) := by decide +kernel
theorem dX1_valley_1 : decode cX1_valley 1 = .ok (.getfield 30, 3) := by decide +kernel
theorem dX1_valley_4 : decode cX1_valley 4 = .ok (.istore_n 1, 1) := by decide +kernel
theorem dX1_valley_5 : decode cX1_valley 5 = .ok (.aload_n 0, 1) := by decide +kernel
theorem dX1_valley_6 : decode cX1_valley 6 = .ok (.iconst 0, 1) := by decide +kernel
theorem dX1_valley_7 : decode cX1_valley 7 = .ok (.putfield 30, 3) := by decide +kernel
theorem dX1_valley_10 : decode cX1_valley 10 = .ok (.aload_n 0, 1) := by decide +kernel
theorem dX1_valley_11 : decode cX1_valley 11 = .ok (.iload_n 1, 1) := by decide +kernel
theorem dX1_valley_12 : decode cX1_valley 12 = .ok (.invokevirtual 56, 3) := by decide +kernel
theorem dX1_valley_15 : decode cX1_valley 15 = .ok (.istore_n 2, 1) := by decide +kernel
theorem dX1_valley_16 : decode cX1_valley 16 = .ok (.iload_n 2, 1) := by decide +kernel
theorem dX1_valley_17 : decode cX1_valley 17 = .ok (.ifCond .lt 9, 3) := by decide +kernel
theorem dX1_valley_20 : decode cX1_valley 20 = .ok (.sipush (-1000), 3) := by decide +kernel
theorem dX1_valley_23 : decode cX1_valley 23 = .ok (.iload_n 2, 1) := by decide +kernel
theorem dX1_valley_24 : decode cX1_valley 24 = .ok (.isub, 1) := by decide +kernel
theorem dX1_valley_25 : decode cX1_valley 25 = .ok (.ireturn, 1) := by decide +kernel
theorem dX1_valley_26 : decode cX1_valley 26 = .ok (.aload_n 0, 1) := by decide +kernel
theorem dX1_valley_27 : decode cX1_valley 27 = .ok (.getfield 16, 3) := by decide +kernel
theorem dX1_valley_30 : decode cX1_valley 30 = .ok (.aload_n 0, 1) := by decide +kernel
theorem dX1_valley_31 : decode cX1_valley 31 = .ok (.getfield 10, 3) := by decide +kernel
theorem dX1_valley_34 : decode cX1_valley 34 = .ok (.invokevirtual 59, 3) := by decide +kernel
theorem dX1_valley_37 : decode cX1_valley 37 = .ok (.iconst 0, 1) := by decide +kernel
theorem dX1_valley_38 : decode cX1_valley 38 = .ok (.istore_n 3, 1) := by decide +kernel
theorem dX1_valley_39 : decode cX1_valley 39 = .ok (.iconst 0, 1) := by decide +kernel
theorem dX1_valley_40 : decode cX1_valley 40 = .ok (.istore 4, 2) := by decide +kernel
theorem dX1_valley_42 : decode cX1_valley 42 = .ok (.iload 4, 2) := by decide +kernel
theorem dX1_valley_44 : decode cX1_valley 44 = .ok (.iload_n 1, 1) := by decide +kernel
theorem dX1_valley_45 : decode cX1_valley 45 = .ok (.if_icmp .ge 42, 3) := by decide +kernel
theorem dX1_valley_48 : decode cX1_valley 48 = .ok (.aload_n 0, 1) := by decide +kernel
theorem dX1_valley_49 : decode cX1_valley 49 = .ok (.iload 4, 2) := by decide +kernel
theorem dX1_valley_51 : decode cX1_valley 51 = .ok (.invokevirtual 63, 3) := by decide +kernel
theorem dX1_valley_54 : decode cX1_valley 54 = .ok (.ifCond .ne 10, 3) := by decide +kernel
theorem dX1_valley_57 : decode cX1_valley 57 = .ok (.sipush (-2000), 3) := by decide +kernel
theorem dX1_valley_60 : decode cX1_valley 60 = .ok (.iload 4, 2) := by decide +kernel
theorem dX1_valley_62 : decode cX1_valley 62 = .ok (.isub, 1) := by decide +kernel
theorem dX1_valley_63 : decode cX1_valley 63 = .ok (.ireturn, 1) := by decide +kernel
theorem dX1_valley_64 : decode cX1_valley 64 = .ok (.iinc 3 1, 3) := by decide +kernel
theorem dX1_valley_67 : decode cX1_valley 67 = .ok (.iload 4, 2) := by decide +kernel
theorem dX1_valley_69 : decode cX1_valley 69 = .ok (.iconst 1, 1) := by decide +kernel
theorem dX1_valley_70 : decode cX1_valley 70 = .ok (.aload_n 0, 1) := by decide +kernel
theorem dX1_valley_71 : decode cX1_valley 71 = .ok (.getfield 26, 3) := by decide +kernel
theorem dX1_valley_74 : decode cX1_valley 74 = .ok (.iload 4, 2) := by decide +kernel
theorem dX1_valley_76 : decode cX1_valley 76 = .ok (.iaload, 1) := by decide +kernel
theorem dX1_valley_77 : decode cX1_valley 77 = .ok (.invokestatic 67, 3) := by decide +kernel
theorem dX1_valley_80 : decode cX1_valley 80 = .ok (.iadd, 1) := by decide +kernel
theorem dX1_valley_81 : decode cX1_valley 81 = .ok (.iadd, 1) := by decide +kernel
theorem dX1_valley_82 : decode cX1_valley 82 = .ok (.istore 4, 2) := by decide +kernel
theorem dX1_valley_84 : decode cX1_valley 84 = .ok (.goto (-42), 3) := by decide +kernel
theorem dX1_valley_87 : decode cX1_valley 87 = .ok (.aload_n 0, 1) := by decide +kernel
theorem dX1_valley_88 : decode cX1_valley 88 = .ok (.getfield 10, 3) := by decide +kernel
theorem dX1_valley_91 : decode cX1_valley 91 = .ok (.aload_n 0, 1) := by decide +kernel
theorem dX1_valley_92 : decode cX1_valley 92 = .ok (.getfield 16, 3) := by decide +kernel
theorem dX1_valley_95 : decode cX1_valley 95 = .ok (.invokevirtual 59, 3) := by decide +kernel
theorem dX1_valley_98 : decode cX1_valley 98 = .ok (.iload_n 3, 1) := by decide +kernel
theorem dX1_valley_99 : decode cX1_valley 99 = .ok (.ireturn, 1) := by decide +kernel
theorem dX1_rocket_0 : decode cX1_rocket 0 = .ok (.aload_n 0, 1) := by decide +kernel
theorem dX1_rocket_1 : decode cX1_rocket 1 = .ok (.getfield 10, 3) := by decide +kernel
theorem dX1_rocket_4 : decode cX1_rocket 4 = .ok (.iload_n 1, 1) := by decide +kernel
theorem dX1_rocket_5 : decode cX1_rocket 5 = .ok (.invokevirtual 70, 3) := by decide +kernel
theorem dX1_rocket_8 : decode cX1_rocket 8 = .ok (.ifCond .ne 9, 3) := by decide +kernel
theorem dX1_rocket_11 : decode cX1_rocket 11 = .ok (.aload_n 0, 1) := by decide +kernel
theorem dX1_rocket_12 : decode cX1_rocket 12 = .ok (.iconst (-1), 1) := by decide +kernel
theorem dX1_rocket_13 : decode cX1_rocket 13 = .ok (.invokevirtual 52, 3) := by decide +kernel
theorem dX1_rocket_16 : decode cX1_rocket 16 = .ok (.ireturn, 1) := by decide +kernel
theorem dX1_rocket_17 : decode cX1_rocket 17 = .ok (.iload_n 2, 1) := by decide +kernel
theorem dX1_rocket_18 : decode cX1_rocket 18 = .ok (.tableswitch 142 0 8 #[50, 60, 70, 80, 97, 106, 115, 124, 133], 50) := by decide +kernel
theorem dX1_rocket_68 : decode cX1_rocket 68 = .ok (.aload_n 0, 1) := by decide +kernel
theorem dX1_rocket_69 : decode cX1_rocket 69 = .ok (.getfield 10, 3) := by decide +kernel
theorem dX1_rocket_72 : decode cX1_rocket 72 = .ok (.getfield 73, 3) := by decide +kernel
theorem dX1_rocket_75 : decode cX1_rocket 75 = .ok (.iload_n 1, 1) := by decide +kernel
theorem dX1_rocket_76 : decode cX1_rocket 76 = .ok (.iaload, 1) := by decide +kernel
theorem dX1_rocket_77 : decode cX1_rocket 77 = .ok (.ireturn, 1) := by decide +kernel
theorem dX1_rocket_78 : decode cX1_rocket 78 = .ok (.aload_n 0, 1) := by decide +kernel
theorem dX1_rocket_79 : decode cX1_rocket 79 = .ok (.getfield 10, 3) := by decide +kernel
theorem dX1_rocket_82 : decode cX1_rocket 82 = .ok (.getfield 76, 3) := by decide +kernel
theorem dX1_rocket_85 : decode cX1_rocket 85 = .ok (.iload_n 1, 1) := by decide +kernel
theorem dX1_rocket_86 : decode cX1_rocket 86 = .ok (.iaload, 1) := by decide +kernel
theorem dX1_rocket_87 : decode cX1_rocket 87 = .ok (.ireturn, 1) := by decide +kernel
theorem dX1_rocket_88 : decode cX1_rocket 88 = .ok (.aload_n 0, 1) := by decide +kernel
theorem dX1_rocket_89 : decode cX1_rocket 89 = .ok (.getfield 10, 3) := by decide +kernel
theorem dX1_rocket_92 : decode cX1_rocket 92 = .ok (.getfield 79, 3) := by decide +kernel
theorem dX1_rocket_95 : decode cX1_rocket 95 = .ok (.iload_n 1, 1) := by decide +kernel
theorem dX1_rocket_96 : decode cX1_rocket 96 = .ok (.iaload, 1) := by decide +kernel
theorem dX1_rocket_97 : decode cX1_rocket 97 = .ok (.ireturn, 1) := by decide +kernel
theorem dX1_rocket_98 : decode cX1_rocket 98 = .ok (.aload_n 0, 1) := by decide +kernel
theorem dX1_rocket_99 : decode cX1_rocket 99 = .ok (.getfield 10, 3) := by decide +kernel
theorem dX1_rocket_102 : decode cX1_rocket 102 = .ok (.iload_n 1, 1) := by decide +kernel
theorem dX1_rocket_103 : decode cX1_rocket 103 = .ok (.invokevirtual 82, 3) := by decide +kernel
theorem dX1_rocket_106 : decode cX1_rocket 106 = .ok (.ifCond .eq 7, 3) := by decide +kernel
theorem dX1_rocket_109 : decode cX1_rocket 109 = .ok (.iconst 1, 1) := by decide +kernel
theorem dX1_rocket_110 : decode cX1_rocket 110 = .ok (.goto 4, 3) := by decide +kernel
theorem dX1_rocket_113 : decode cX1_rocket 113 = .ok (.iconst 0, 1) := by decide +kernel
theorem dX1_rocket_114 : decode cX1_rocket 114 = .ok (.ireturn, 1) := by decide +kernel
theorem dX1_rocket_115 : decode cX1_rocket 115 = .ok (.aload_n 0, 1) := by decide +kernel
theorem dX1_rocket_116 : decode cX1_rocket 116 = .ok (.getfield 10, 3) := by decide +kernel
theorem dX1_rocket_119 : decode cX1_rocket 119 = .ok (.iload_n 1, 1) := by decide +kernel
theorem dX1_rocket_120 : decode cX1_rocket 120 = .ok (.invokevirtual 85, 3) := by decide +kernel
theorem dX1_rocket_123 : decode cX1_rocket 123 = .ok (.ireturn, 1) := by decide +kernel
theorem dX1_rocket_124 : decode cX1_rocket 124 = .ok (.aload_n 0, 1) := by decide +kernel
theorem dX1_rocket_125 : decode cX1_rocket 125 = .ok (.getfield 10, 3) := by decide +kernel
theorem dX1_rocket_128 : decode cX1_rocket 128 = .ok (.iload_n 1, 1) := by decide +kernel
theorem dX1_rocket_129 : decode cX1_rocket 129 = .ok (.invokevirtual 88, 3) := by decide +kernel
theorem dX1_rocket_132 : decode cX1_rocket 132 = .ok (.ireturn, 1) := by decide +kernel
theorem dX1_rocket_133 : decode cX1_rocket 133 = .ok (.aload_n 0, 1) := by decide +kernel
theorem dX1_rocket_134 : decode cX1_rocket 134 = .ok (.getfield 10, 3) := by decide +kernel
theorem dX1_rocket_137 : decode cX1_rocket 137 = .ok (.iload_n 1, 1) := by decide +kernel
theorem dX1_rocket_138 : decode cX1_rocket 138 = .ok (.invokevirtual 91, 3) := by decide +kernel
theorem dX1_rocket_141 : decode cX1_rocket 141 = .ok (.ireturn, 1) := by decide +kernel
theorem dX1_rocket_142 : decode cX1_rocket 142 = .ok (.aload_n 0, 1) := by decide +kernel
theorem dX1_rocket_143 : decode cX1_rocket 143 = .ok (.getfield 10, 3) := by decide +kernel
theorem dX1_rocket_146 : decode cX1_rocket 146 = .ok (.iload_n 1, 1) := by decide +kernel
theorem dX1_rocket_147 : decode cX1_rocket 147 = .ok (.invokevirtual 94, 3) := by decide +kernel
theorem dX1_rocket_150 : decode cX1_rocket 150 = .ok (.ireturn, 1) := by decide +kernel
theorem dX1_rocket_151 : decode cX1_rocket 151 = .ok (.aload_n 0, 1) := by decide +kernel
theorem dX1_rocket_152 : decode cX1_rocket 152 = .ok (.getfield 10, 3) := by decide +kernel
theorem dX1_rocket_155 : decode cX1_rocket 155 = .ok (.iload_n 1, 1) := by decide +kernel
theorem dX1_rocket_156 : decode cX1_rocket 156 = .ok (.invokevirtual 97, 3) := by decide +kernel
theorem dX1_rocket_159 : decode cX1_rocket 159 = .ok (.ireturn, 1) := by decide +kernel
theorem dX1_rocket_160 : decode cX1_rocket 160 = .ok (.aload_n 0, 1) := by decide +kernel
theorem dX1_rocket_161 : decode cX1_rocket 161 = .ok (.bipush (-2), 2) := by decide +kernel
theorem dX1_rocket_163 : decode cX1_rocket 163 = .ok (.invokevirtual 52, 3) := by decide +kernel
theorem dX1_rocket_166 : decode cX1_rocket 166 = .ok (.ireturn, 1) := by decide +kernel
theorem dX1_reader_0 : decode cX1_reader 0 = .ok (.aload_n 0, 1) := by decide +kernel
theorem dX1_reader_1 : decode cX1_reader 1 = .ok (.getfield 10, 3) := by decide +kernel
theorem dX1_reader_4 : decode cX1_reader 4 = .ok (.iload_n 1, 1) := by decide +kernel
theorem dX1_reader_5 : decode cX1_reader 5 = .ok (.invokevirtual 100, 3) := by decide +kernel
theorem dX1_reader_8 : decode cX1_reader 8 = .ok (.ifCond .ne 9, 3) := by decide +kernel
theorem dX1_reader_11 : decode cX1_reader 11 = .ok (.aload_n 0, 1) := by decide +kernel
theorem dX1_reader_12 : decode cX1_reader 12 = .ok (.iconst (-1), 1) := by decide +kernel
theorem dX1_reader_13 : decode cX1_reader 13 = .ok (.invokevirtual 52, 3) := by decide +kernel
theorem dX1_reader_16 : decode cX1_reader 16 = .ok (.ireturn, 1) := by decide +kernel
theorem dX1_reader_17 : decode cX1_reader 17 = .ok (.iload_n 2, 1) := by decide +kernel
theorem dX1_reader_18 : decode cX1_reader 18 = .ok (.tableswitch 55 0 2 #[26, 36, 46], 26) := by decide +kernel
theorem dX1_reader_44 : decode cX1_reader 44 = .ok (.aload_n 0, 1) := by decide +kernel
theorem dX1_reader_45 : decode cX1_reader 45 = .ok (.getfield 10, 3) := by decide +kernel
theorem dX1_reader_48 : decode cX1_reader 48 = .ok (.getfield 103, 3) := by decide +kernel
theorem dX1_reader_51 : decode cX1_reader 51 = .ok (.iload_n 1, 1) := by decide +kernel
theorem dX1_reader_52 : decode cX1_reader 52 = .ok (.iaload, 1) := by decide +kernel
theorem dX1_reader_53 : decode cX1_reader 53 = .ok (.ireturn, 1) := by decide +kernel
theorem dX1_reader_54 : decode cX1_reader 54 = .ok (.aload_n 0, 1) := by decide +kernel
theorem dX1_reader_55 : decode cX1_reader 55 = .ok (.getfield 10, 3) := by decide +kernel
theorem dX1_reader_58 : decode cX1_reader 58 = .ok (.getfield 106, 3) := by decide +kernel
theorem dX1_reader_61 : decode cX1_reader 61 = .ok (.iload_n 1, 1) := by decide +kernel
theorem dX1_reader_62 : decode cX1_reader 62 = .ok (.iaload, 1) := by decide +kernel
theorem dX1_reader_63 : decode cX1_reader 63 = .ok (.ireturn, 1) := by decide +kernel
theorem dX1_reader_64 : decode cX1_reader 64 = .ok (.aload_n 0, 1) := by decide +kernel
theorem dX1_reader_65 : decode cX1_reader 65 = .ok (.getfield 10, 3) := by decide +kernel
theorem dX1_reader_68 : decode cX1_reader 68 = .ok (.iload_n 1, 1) := by decide +kernel
theorem dX1_reader_69 : decode cX1_reader 69 = .ok (.invokevirtual 109, 3) := by decide +kernel
theorem dX1_reader_72 : decode cX1_reader 72 = .ok (.ireturn, 1) := by decide +kernel
theorem dX1_reader_73 : decode cX1_reader 73 = .ok (.aload_n 0, 1) := by decide +kernel
theorem dX1_reader_74 : decode cX1_reader 74 = .ok (.bipush (-2), 2) := by decide +kernel
theorem dX1_reader_76 : decode cX1_reader 76 = .ok (.invokevirtual 52, 3) := by decide +kernel
theorem dX1_reader_79 : decode cX1_reader 79 = .ok (.ireturn, 1) := by decide +kernel
theorem dX1_keeps_0 : decode cX1_keeps 0 = .ok (.aload_n 0, 1) := by decide +kernel
theorem dX1_keeps_1 : decode cX1_keeps 1 = .ok (.getfield 10, 3) := by decide +kernel
theorem dX1_keeps_4 : decode cX1_keeps 4 = .ok (.iload_n 1, 1) := by decide +kernel
theorem dX1_keeps_5 : decode cX1_keeps 5 = .ok (.invokevirtual 100, 3) := by decide +kernel
theorem dX1_keeps_8 : decode cX1_keeps 8 = .ok (.ifCond .eq 13, 3) := by decide +kernel
theorem dX1_keeps_11 : decode cX1_keeps 11 = .ok (.iload_n 2, 1) := by decide +kernel
theorem dX1_keeps_12 : decode cX1_keeps 12 = .ok (.ifCond .lt 9, 3) := by decide +kernel
theorem dX1_keeps_15 : decode cX1_keeps 15 = .ok (.iload_n 2, 1) := by decide +kernel
theorem dX1_keeps_16 : decode cX1_keeps 16 = .ok (.bipush 6, 2) := by decide +kernel
theorem dX1_keeps_18 : decode cX1_keeps 18 = .ok (.if_icmp .lt 9, 3) := by decide +kernel
theorem dX1_keeps_21 : decode cX1_keeps 21 = .ok (.aload_n 0, 1) := by decide +kernel
theorem dX1_keeps_22 : decode cX1_keeps 22 = .ok (.iconst (-1), 1) := by decide +kernel
theorem dX1_keeps_23 : decode cX1_keeps 23 = .ok (.invokevirtual 52, 3) := by decide +kernel
theorem dX1_keeps_26 : decode cX1_keeps 26 = .ok (.ireturn, 1) := by decide +kernel
theorem dX1_keeps_27 : decode cX1_keeps 27 = .ok (.aload_n 0, 1) := by decide +kernel
theorem dX1_keeps_28 : decode cX1_keeps 28 = .ok (.getfield 10, 3) := by decide +kernel
theorem dX1_keeps_31 : decode cX1_keeps 31 = .ok (.getfield 112, 3) := by decide +kernel
theorem dX1_keeps_34 : decode cX1_keeps 34 = .ok (.iload_n 1, 1) := by decide +kernel
theorem dX1_keeps_35 : decode cX1_keeps 35 = .ok (.bipush 6, 2) := by decide +kernel
theorem dX1_keeps_37 : decode cX1_keeps 37 = .ok (.imul, 1) := by decide +kernel
theorem dX1_keeps_38 : decode cX1_keeps 38 = .ok (.iload_n 2, 1) := by decide +kernel
theorem dX1_keeps_39 : decode cX1_keeps 39 = .ok (.iadd, 1) := by decide +kernel
theorem dX1_keeps_40 : decode cX1_keeps 40 = .ok (.iaload, 1) := by decide +kernel
theorem dX1_keeps_41 : decode cX1_keeps 41 = .ok (.ireturn, 1) := by decide +kernel
theorem dX1_sends_0 : decode cX1_sends 0 = .ok (.aload_n 0, 1) := by decide +kernel
theorem dX1_sends_1 : decode cX1_sends 1 = .ok (.getfield 10, 3) := by decide +kernel
theorem dX1_sends_4 : decode cX1_sends 4 = .ok (.iload_n 1, 1) := by decide +kernel
theorem dX1_sends_5 : decode cX1_sends 5 = .ok (.invokevirtual 70, 3) := by decide +kernel
theorem dX1_sends_8 : decode cX1_sends 8 = .ok (.ifCond .ne 9, 3) := by decide +kernel
theorem dX1_sends_11 : decode cX1_sends 11 = .ok (.aload_n 0, 1) := by decide +kernel
theorem dX1_sends_12 : decode cX1_sends 12 = .ok (.iconst (-1), 1) := by decide +kernel
theorem dX1_sends_13 : decode cX1_sends 13 = .ok (.invokevirtual 52, 3) := by decide +kernel
theorem dX1_sends_16 : decode cX1_sends 16 = .ok (.ireturn, 1) := by decide +kernel
theorem dX1_sends_17 : decode cX1_sends 17 = .ok (.aload_n 0, 1) := by decide +kernel
theorem dX1_sends_18 : decode cX1_sends 18 = .ok (.getfield 10, 3) := by decide +kernel
theorem dX1_sends_21 : decode cX1_sends 21 = .ok (.iload_n 1, 1) := by decide +kernel
theorem dX1_sends_22 : decode cX1_sends 22 = .ok (.invokevirtual 115, 3) := by decide +kernel
theorem dX1_sends_25 : decode cX1_sends 25 = .ok (.ifCond .ne 10, 3) := by decide +kernel
theorem dX1_sends_28 : decode cX1_sends 28 = .ok (.aload_n 0, 1) := by decide +kernel
theorem dX1_sends_29 : decode cX1_sends 29 = .ok (.bipush (-3), 2) := by decide +kernel
theorem dX1_sends_31 : decode cX1_sends 31 = .ok (.invokevirtual 52, 3) := by decide +kernel
theorem dX1_sends_34 : decode cX1_sends 34 = .ok (.ireturn, 1) := by decide +kernel
theorem dX1_sends_35 : decode cX1_sends 35 = .ok (.aload_n 0, 1) := by decide +kernel
theorem dX1_sends_36 : decode cX1_sends 36 = .ok (.getfield 10, 3) := by decide +kernel
theorem dX1_sends_39 : decode cX1_sends 39 = .ok (.iload_n 1, 1) := by decide +kernel
theorem dX1_sends_40 : decode cX1_sends 40 = .ok (.bipush 31, 2) := by decide +kernel
theorem dX1_sends_42 : decode cX1_sends 42 = .ok (.invokevirtual 118, 3) := by decide +kernel
theorem dX1_sends_45 : decode cX1_sends 45 = .ok (.aload_n 0, 1) := by decide +kernel
theorem dX1_sends_46 : decode cX1_sends 46 = .ok (.getfield 10, 3) := by decide +kernel
theorem dX1_sends_49 : decode cX1_sends 49 = .ok (.getfield 122, 3) := by decide +kernel
theorem dX1_sends_52 : decode cX1_sends 52 = .ok (.ireturn, 1) := by decide +kernel
theorem dX1_boxes_0 : decode cX1_boxes 0 = .ok (.aload_n 0, 1) := by decide +kernel
theorem dX1_boxes_1 : decode cX1_boxes 1 = .ok (.getfield 10, 3) := by decide +kernel
theorem dX1_boxes_4 : decode cX1_boxes 4 = .ok (.iload_n 1, 1) := by decide +kernel
theorem dX1_boxes_5 : decode cX1_boxes 5 = .ok (.invokevirtual 70, 3) := by decide +kernel
theorem dX1_boxes_8 : decode cX1_boxes 8 = .ok (.ifCond .ne 9, 3) := by decide +kernel
theorem dX1_boxes_11 : decode cX1_boxes 11 = .ok (.aload_n 0, 1) := by decide +kernel
theorem dX1_boxes_12 : decode cX1_boxes 12 = .ok (.iconst (-1), 1) := by decide +kernel
theorem dX1_boxes_13 : decode cX1_boxes 13 = .ok (.invokevirtual 52, 3) := by decide +kernel
theorem dX1_boxes_16 : decode cX1_boxes 16 = .ok (.ireturn, 1) := by decide +kernel
theorem dX1_boxes_17 : decode cX1_boxes 17 = .ok (.aload_n 0, 1) := by decide +kernel
theorem dX1_boxes_18 : decode cX1_boxes 18 = .ok (.getfield 10, 3) := by decide +kernel
theorem dX1_boxes_21 : decode cX1_boxes 21 = .ok (.iload_n 1, 1) := by decide +kernel
theorem dX1_boxes_22 : decode cX1_boxes 22 = .ok (.invokevirtual 82, 3) := by decide +kernel
theorem dX1_boxes_25 : decode cX1_boxes 25 = .ok (.ifCond .ne 10, 3) := by decide +kernel
theorem dX1_boxes_28 : decode cX1_boxes 28 = .ok (.aload_n 0, 1) := by decide +kernel
theorem dX1_boxes_29 : decode cX1_boxes 29 = .ok (.bipush (-3), 2) := by decide +kernel
theorem dX1_boxes_31 : decode cX1_boxes 31 = .ok (.invokevirtual 52, 3) := by decide +kernel
theorem dX1_boxes_34 : decode cX1_boxes 34 = .ok (.ireturn, 1) := by decide +kernel
theorem dX1_boxes_35 : decode cX1_boxes 35 = .ok (.aload_n 0, 1) := by decide +kernel
theorem dX1_boxes_36 : decode cX1_boxes 36 = .ok (.getfield 10, 3) := by decide +kernel
theorem dX1_boxes_39 : decode cX1_boxes 39 = .ok (.iload_n 1, 1) := by decide +kernel
theorem dX1_boxes_40 : decode cX1_boxes 40 = .ok (.invokevirtual 125, 3) := by decide +kernel
theorem dX1_boxes_43 : decode cX1_boxes 43 = .ok (.aload_n 0, 1) := by decide +kernel
theorem dX1_boxes_44 : decode cX1_boxes 44 = .ok (.getfield 10, 3) := by decide +kernel
theorem dX1_boxes_47 : decode cX1_boxes 47 = .ok (.getfield 129, 3) := by decide +kernel
theorem dX1_boxes_50 : decode cX1_boxes 50 = .ok (.aload_n 0, 1) := by decide +kernel
theorem dX1_boxes_51 : decode cX1_boxes 51 = .ok (.getfield 10, 3) := by decide +kernel
theorem dX1_boxes_54 : decode cX1_boxes 54 = .ok (.getfield 132, 3) := by decide +kernel
theorem dX1_boxes_57 : decode cX1_boxes 57 = .ok (.invokestatic 135, 3) := by decide +kernel
theorem dX1_boxes_60 : decode cX1_boxes 60 = .ok (.isub, 1) := by decide +kernel
theorem dX1_boxes_61 : decode cX1_boxes 61 = .ok (.ireturn, 1) := by decide +kernel
theorem dX1_wind_0 : decode cX1_wind 0 = .ok (.iload_n 1, 1) := by decide +kernel
theorem dX1_wind_1 : decode cX1_wind 1 = .ok (.iconst 0, 1) := by decide +kernel
theorem dX1_wind_2 : decode cX1_wind 2 = .ok (.bipush 9, 2) := by decide +kernel
theorem dX1_wind_4 : decode cX1_wind 4 = .ok (.invokestatic 140, 3) := by decide +kernel
theorem dX1_wind_7 : decode cX1_wind 7 = .ok (.istore_n 2, 1) := by decide +kernel
theorem dX1_wind_8 : decode cX1_wind 8 = .ok (.iload_n 2, 1) := by decide +kernel
theorem dX1_wind_9 : decode cX1_wind 9 = .ok (.ifCond .eq 9, 3) := by decide +kernel
theorem dX1_wind_12 : decode cX1_wind 12 = .ok (.aload_n 0, 1) := by decide +kernel
theorem dX1_wind_13 : decode cX1_wind 13 = .ok (.iload_n 2, 1) := by decide +kernel
theorem dX1_wind_14 : decode cX1_wind 14 = .ok (.invokevirtual 52, 3) := by decide +kernel
theorem dX1_wind_17 : decode cX1_wind 17 = .ok (.ireturn, 1) := by decide +kernel
theorem dX1_wind_18 : decode cX1_wind 18 = .ok (.aload_n 0, 1) := by decide +kernel
theorem dX1_wind_19 : decode cX1_wind 19 = .ok (.getfield 10, 3) := by decide +kernel
theorem dX1_wind_22 : decode cX1_wind 22 = .ok (.getfield 144, 3) := by decide +kernel
theorem dX1_wind_25 : decode cX1_wind 25 = .ok (.istore_n 3, 1) := by decide +kernel
theorem dX1_wind_26 : decode cX1_wind 26 = .ok (.aload_n 0, 1) := by decide +kernel
theorem dX1_wind_27 : decode cX1_wind 27 = .ok (.getfield 10, 3) := by decide +kernel
theorem dX1_wind_30 : decode cX1_wind 30 = .ok (.iload_n 1, 1) := by decide +kernel
theorem dX1_wind_31 : decode cX1_wind 31 = .ok (.putfield 144, 3) := by decide +kernel
theorem dX1_wind_34 : decode cX1_wind 34 = .ok (.iload_n 3, 1) := by decide +kernel
theorem dX1_wind_35 : decode cX1_wind 35 = .ok (.ireturn, 1) := by decide +kernel
theorem dX1_grant_0 : decode cX1_grant 0 = .ok (.iload_n 1, 1) := by decide +kernel
theorem dX1_grant_1 : decode cX1_grant 1 = .ok (.iconst 0, 1) := by decide +kernel
theorem dX1_grant_2 : decode cX1_grant 2 = .ok (.sipush 999, 3) := by decide +kernel
theorem dX1_grant_5 : decode cX1_grant 5 = .ok (.invokestatic 140, 3) := by decide +kernel
theorem dX1_grant_8 : decode cX1_grant 8 = .ok (.istore_n 2, 1) := by decide +kernel
theorem dX1_grant_9 : decode cX1_grant 9 = .ok (.iload_n 2, 1) := by decide +kernel
theorem dX1_grant_10 : decode cX1_grant 10 = .ok (.ifCond .eq 9, 3) := by decide +kernel
theorem dX1_grant_13 : decode cX1_grant 13 = .ok (.aload_n 0, 1) := by decide +kernel
theorem dX1_grant_14 : decode cX1_grant 14 = .ok (.iload_n 2, 1) := by decide +kernel
theorem dX1_grant_15 : decode cX1_grant 15 = .ok (.invokevirtual 52, 3) := by decide +kernel
theorem dX1_grant_18 : decode cX1_grant 18 = .ok (.ireturn, 1) := by decide +kernel
theorem dX1_grant_19 : decode cX1_grant 19 = .ok (.aload_n 0, 1) := by decide +kernel
theorem dX1_grant_20 : decode cX1_grant 20 = .ok (.getfield 10, 3) := by decide +kernel
theorem dX1_grant_23 : decode cX1_grant 23 = .ok (.getfield 122, 3) := by decide +kernel
theorem dX1_grant_26 : decode cX1_grant 26 = .ok (.istore_n 3, 1) := by decide +kernel
theorem dX1_grant_27 : decode cX1_grant 27 = .ok (.aload_n 0, 1) := by decide +kernel
theorem dX1_grant_28 : decode cX1_grant 28 = .ok (.getfield 10, 3) := by decide +kernel
theorem dX1_grant_31 : decode cX1_grant 31 = .ok (.iload_n 1, 1) := by decide +kernel
theorem dX1_grant_32 : decode cX1_grant 32 = .ok (.putfield 122, 3) := by decide +kernel
theorem dX1_grant_35 : decode cX1_grant 35 = .ok (.iload_n 3, 1) := by decide +kernel
theorem dX1_grant_36 : decode cX1_grant 36 = .ok (.ireturn, 1) := by decide +kernel
theorem dX1_stands_0 : decode cX1_stands 0 = .ok (.aload_n 0, 1) := by decide +kernel
theorem dX1_stands_1 : decode cX1_stands 1 = .ok (.getfield 10, 3) := by decide +kernel
theorem dX1_stands_4 : decode cX1_stands 4 = .ok (.iload_n 1, 1) := by decide +kernel
theorem dX1_stands_5 : decode cX1_stands 5 = .ok (.invokevirtual 100, 3) := by decide +kernel
theorem dX1_stands_8 : decode cX1_stands 8 = .ok (.ifCond .eq 13, 3) := by decide +kernel
theorem dX1_stands_11 : decode cX1_stands 11 = .ok (.iload_n 2, 1) := by decide +kernel
theorem dX1_stands_12 : decode cX1_stands 12 = .ok (.ifCond .lt 9, 3) := by decide +kernel
theorem dX1_stands_15 : decode cX1_stands 15 = .ok (.iload_n 2, 1) := by decide +kernel
theorem dX1_stands_16 : decode cX1_stands 16 = .ok (.bipush 20, 2) := by decide +kernel
theorem dX1_stands_18 : decode cX1_stands 18 = .ok (.if_icmp .lt 9, 3) := by decide +kernel
theorem dX1_stands_21 : decode cX1_stands 21 = .ok (.aload_n 0, 1) := by decide +kernel
theorem dX1_stands_22 : decode cX1_stands 22 = .ok (.iconst (-1), 1) := by decide +kernel
theorem dX1_stands_23 : decode cX1_stands 23 = .ok (.invokevirtual 52, 3) := by decide +kernel
theorem dX1_stands_26 : decode cX1_stands 26 = .ok (.ireturn, 1) := by decide +kernel
theorem dX1_stands_27 : decode cX1_stands 27 = .ok (.aload_n 0, 1) := by decide +kernel
theorem dX1_stands_28 : decode cX1_stands 28 = .ok (.getfield 10, 3) := by decide +kernel
theorem dX1_stands_31 : decode cX1_stands 31 = .ok (.getfield 103, 3) := by decide +kernel
theorem dX1_stands_34 : decode cX1_stands 34 = .ok (.iload_n 1, 1) := by decide +kernel
theorem dX1_stands_35 : decode cX1_stands 35 = .ok (.iaload, 1) := by decide +kernel
theorem dX1_stands_36 : decode cX1_stands 36 = .ok (.istore_n 3, 1) := by decide +kernel
theorem dX1_stands_37 : decode cX1_stands 37 = .ok (.aload_n 0, 1) := by decide +kernel
theorem dX1_stands_38 : decode cX1_stands 38 = .ok (.getfield 10, 3) := by decide +kernel
theorem dX1_stands_41 : decode cX1_stands 41 = .ok (.getfield 103, 3) := by decide +kernel
theorem dX1_stands_44 : decode cX1_stands 44 = .ok (.iload_n 1, 1) := by decide +kernel
theorem dX1_stands_45 : decode cX1_stands 45 = .ok (.iload_n 2, 1) := by decide +kernel
theorem dX1_stands_46 : decode cX1_stands 46 = .ok (.iastore, 1) := by decide +kernel
theorem dX1_stands_47 : decode cX1_stands 47 = .ok (.iload_n 3, 1) := by decide +kernel
theorem dX1_stands_48 : decode cX1_stands 48 = .ok (.ireturn, 1) := by decide +kernel
theorem dX1_turn_0 : decode cX1_turn 0 = .ok (.aload_n 0, 1) := by decide +kernel
theorem dX1_turn_1 : decode cX1_turn 1 = .ok (.getfield 10, 3) := by decide +kernel
theorem dX1_turn_4 : decode cX1_turn 4 = .ok (.iload_n 1, 1) := by decide +kernel
theorem dX1_turn_5 : decode cX1_turn 5 = .ok (.invokevirtual 70, 3) := by decide +kernel
theorem dX1_turn_8 : decode cX1_turn 8 = .ok (.ifCond .ne 9, 3) := by decide +kernel
theorem dX1_turn_11 : decode cX1_turn 11 = .ok (.aload_n 0, 1) := by decide +kernel
theorem dX1_turn_12 : decode cX1_turn 12 = .ok (.iconst (-1), 1) := by decide +kernel
theorem dX1_turn_13 : decode cX1_turn 13 = .ok (.invokevirtual 52, 3) := by decide +kernel
theorem dX1_turn_16 : decode cX1_turn 16 = .ok (.ireturn, 1) := by decide +kernel
theorem dX1_turn_17 : decode cX1_turn 17 = .ok (.iload_n 2, 1) := by decide +kernel
theorem dX1_turn_18 : decode cX1_turn 18 = .ok (.ifCond .lt 9, 3) := by decide +kernel
theorem dX1_turn_21 : decode cX1_turn 21 = .ok (.iload_n 2, 1) := by decide +kernel
theorem dX1_turn_22 : decode cX1_turn 22 = .ok (.bipush 6, 2) := by decide +kernel
theorem dX1_turn_24 : decode cX1_turn 24 = .ok (.if_icmp .lt 10, 3) := by decide +kernel
theorem dX1_turn_27 : decode cX1_turn 27 = .ok (.aload_n 0, 1) := by decide +kernel
theorem dX1_turn_28 : decode cX1_turn 28 = .ok (.bipush (-2), 2) := by decide +kernel
theorem dX1_turn_30 : decode cX1_turn 30 = .ok (.invokevirtual 52, 3) := by decide +kernel
theorem dX1_turn_33 : decode cX1_turn 33 = .ok (.ireturn, 1) := by decide +kernel
theorem dX1_turn_34 : decode cX1_turn 34 = .ok (.iload_n 3, 1) := by decide +kernel
theorem dX1_turn_35 : decode cX1_turn 35 = .ok (.iconst 0, 1) := by decide +kernel
theorem dX1_turn_36 : decode cX1_turn 36 = .ok (.bipush 9, 2) := by decide +kernel
theorem dX1_turn_38 : decode cX1_turn 38 = .ok (.invokestatic 140, 3) := by decide +kernel
theorem dX1_turn_41 : decode cX1_turn 41 = .ok (.istore 4, 2) := by decide +kernel
theorem dX1_turn_43 : decode cX1_turn 43 = .ok (.iload 4, 2) := by decide +kernel
theorem dX1_turn_45 : decode cX1_turn 45 = .ok (.ifCond .eq 10, 3) := by decide +kernel
theorem dX1_turn_48 : decode cX1_turn 48 = .ok (.aload_n 0, 1) := by decide +kernel
theorem dX1_turn_49 : decode cX1_turn 49 = .ok (.iload 4, 2) := by decide +kernel
theorem dX1_turn_51 : decode cX1_turn 51 = .ok (.invokevirtual 52, 3) := by decide +kernel
theorem dX1_turn_54 : decode cX1_turn 54 = .ok (.ireturn, 1) := by decide +kernel
theorem dX1_turn_55 : decode cX1_turn 55 = .ok (.bipush 10, 2) := by decide +kernel
theorem dX1_turn_57 : decode cX1_turn 57 = .ok (.aload_n 0, 1) := by decide +kernel
theorem dX1_turn_58 : decode cX1_turn 58 = .ok (.getfield 10, 3) := by decide +kernel
theorem dX1_turn_61 : decode cX1_turn 61 = .ok (.getfield 73, 3) := by decide +kernel
theorem dX1_turn_64 : decode cX1_turn 64 = .ok (.iload_n 1, 1) := by decide +kernel
theorem dX1_turn_65 : decode cX1_turn 65 = .ok (.iaload, 1) := by decide +kernel
theorem dX1_turn_66 : decode cX1_turn 66 = .ok (.imul, 1) := by decide +kernel
theorem dX1_turn_67 : decode cX1_turn 67 = .ok (.aload_n 0, 1) := by decide +kernel
theorem dX1_turn_68 : decode cX1_turn 68 = .ok (.getfield 10, 3) := by decide +kernel
theorem dX1_turn_71 : decode cX1_turn 71 = .ok (.getfield 76, 3) := by decide +kernel
theorem dX1_turn_74 : decode cX1_turn 74 = .ok (.iload_n 1, 1) := by decide +kernel
theorem dX1_turn_75 : decode cX1_turn 75 = .ok (.iaload, 1) := by decide +kernel
theorem dX1_turn_76 : decode cX1_turn 76 = .ok (.iadd, 1) := by decide +kernel
theorem dX1_turn_77 : decode cX1_turn 77 = .ok (.istore 5, 2) := by decide +kernel
theorem dX1_turn_79 : decode cX1_turn 79 = .ok (.aload_n 0, 1) := by decide +kernel
theorem dX1_turn_80 : decode cX1_turn 80 = .ok (.getfield 10, 3) := by decide +kernel
theorem dX1_turn_83 : decode cX1_turn 83 = .ok (.getfield 73, 3) := by decide +kernel
theorem dX1_turn_86 : decode cX1_turn 86 = .ok (.iload_n 1, 1) := by decide +kernel
theorem dX1_turn_87 : decode cX1_turn 87 = .ok (.iload_n 2, 1) := by decide +kernel
theorem dX1_turn_88 : decode cX1_turn 88 = .ok (.iastore, 1) := by decide +kernel
theorem dX1_turn_89 : decode cX1_turn 89 = .ok (.aload_n 0, 1) := by decide +kernel
theorem dX1_turn_90 : decode cX1_turn 90 = .ok (.getfield 10, 3) := by decide +kernel
theorem dX1_turn_93 : decode cX1_turn 93 = .ok (.getfield 76, 3) := by decide +kernel
theorem dX1_turn_96 : decode cX1_turn 96 = .ok (.iload_n 1, 1) := by decide +kernel
theorem dX1_turn_97 : decode cX1_turn 97 = .ok (.iload_n 3, 1) := by decide +kernel
theorem dX1_turn_98 : decode cX1_turn 98 = .ok (.iastore, 1) := by decide +kernel
theorem dX1_turn_99 : decode cX1_turn 99 = .ok (.iload 5, 2) := by decide +kernel
theorem dX1_turn_101 : decode cX1_turn 101 = .ok (.ireturn, 1) := by decide +kernel
theorem dX1_nights_0 : decode cX1_nights 0 = .ok (.iload_n 1, 1) := by decide +kernel
theorem dX1_nights_1 : decode cX1_nights 1 = .ok (.iconst 1, 1) := by decide +kernel
theorem dX1_nights_2 : decode cX1_nights 2 = .ok (.bipush 60, 2) := by decide +kernel
theorem dX1_nights_4 : decode cX1_nights 4 = .ok (.invokestatic 140, 3) := by decide +kernel
theorem dX1_nights_7 : decode cX1_nights 7 = .ok (.istore_n 2, 1) := by decide +kernel
theorem dX1_nights_8 : decode cX1_nights 8 = .ok (.iload_n 2, 1) := by decide +kernel
theorem dX1_nights_9 : decode cX1_nights 9 = .ok (.ifCond .eq 9, 3) := by decide +kernel
theorem dX1_nights_12 : decode cX1_nights 12 = .ok (.aload_n 0, 1) := by decide +kernel
theorem dX1_nights_13 : decode cX1_nights 13 = .ok (.iload_n 2, 1) := by decide +kernel
theorem dX1_nights_14 : decode cX1_nights 14 = .ok (.invokevirtual 52, 3) := by decide +kernel
theorem dX1_nights_17 : decode cX1_nights 17 = .ok (.ireturn, 1) := by decide +kernel
theorem dX1_nights_18 : decode cX1_nights 18 = .ok (.aload_n 0, 1) := by decide +kernel
theorem dX1_nights_19 : decode cX1_nights 19 = .ok (.getfield 10, 3) := by decide +kernel
theorem dX1_nights_22 : decode cX1_nights 22 = .ok (.getfield 147, 3) := by decide +kernel
theorem dX1_nights_25 : decode cX1_nights 25 = .ok (.iload_n 1, 1) := by decide +kernel
theorem dX1_nights_26 : decode cX1_nights 26 = .ok (.iadd, 1) := by decide +kernel
theorem dX1_nights_27 : decode cX1_nights 27 = .ok (.sipush 999, 3) := by decide +kernel
theorem dX1_nights_30 : decode cX1_nights 30 = .ok (.if_icmp .le 10, 3) := by decide +kernel
theorem dX1_nights_33 : decode cX1_nights 33 = .ok (.aload_n 0, 1) := by decide +kernel
theorem dX1_nights_34 : decode cX1_nights 34 = .ok (.bipush (-6), 2) := by decide +kernel
theorem dX1_nights_36 : decode cX1_nights 36 = .ok (.invokevirtual 52, 3) := by decide +kernel
theorem dX1_nights_39 : decode cX1_nights 39 = .ok (.ireturn, 1) := by decide +kernel
theorem dX1_nights_40 : decode cX1_nights 40 = .ok (.aload_n 0, 1) := by decide +kernel
theorem dX1_nights_41 : decode cX1_nights 41 = .ok (.getfield 10, 3) := by decide +kernel
theorem dX1_nights_44 : decode cX1_nights 44 = .ok (.iload_n 1, 1) := by decide +kernel
theorem dX1_nights_45 : decode cX1_nights 45 = .ok (.bipush 31, 2) := by decide +kernel
theorem dX1_nights_47 : decode cX1_nights 47 = .ok (.invokevirtual 150, 3) := by decide +kernel
theorem dX1_nights_50 : decode cX1_nights 50 = .ok (.aload_n 0, 1) := by decide +kernel
theorem dX1_nights_51 : decode cX1_nights 51 = .ok (.getfield 10, 3) := by decide +kernel
theorem dX1_nights_54 : decode cX1_nights 54 = .ok (.getfield 122, 3) := by decide +kernel
theorem dX1_nights_57 : decode cX1_nights 57 = .ok (.ireturn, 1) := by decide +kernel
theorem dX1_wordsThen_0 : decode cX1_wordsThen 0 = .ok (.aload_n 0, 1) := by decide +kernel
theorem dX1_wordsThen_1 : decode cX1_wordsThen 1 = .ok (.getfield 10, 3) := by decide +kernel
theorem dX1_wordsThen_4 : decode cX1_wordsThen 4 = .ok (.iload_n 1, 1) := by decide +kernel
theorem dX1_wordsThen_5 : decode cX1_wordsThen 5 = .ok (.invokevirtual 100, 3) := by decide +kernel
theorem dX1_wordsThen_8 : decode cX1_wordsThen 8 = .ok (.ifCond .ne 9, 3) := by decide +kernel
theorem dX1_wordsThen_11 : decode cX1_wordsThen 11 = .ok (.aload_n 0, 1) := by decide +kernel
theorem dX1_wordsThen_12 : decode cX1_wordsThen 12 = .ok (.iconst (-1), 1) := by decide +kernel
theorem dX1_wordsThen_13 : decode cX1_wordsThen 13 = .ok (.invokevirtual 52, 3) := by decide +kernel
theorem dX1_wordsThen_16 : decode cX1_wordsThen 16 = .ok (.ireturn, 1) := by decide +kernel
theorem dX1_wordsThen_17 : decode cX1_wordsThen 17 = .ok (.iload_n 2, 1) := by decide +kernel
theorem dX1_wordsThen_18 : decode cX1_wordsThen 18 = .ok (.iconst 0, 1) := by decide +kernel
theorem dX1_wordsThen_19 : decode cX1_wordsThen 19 = .ok (.bipush 60, 2) := by decide +kernel
theorem dX1_wordsThen_21 : decode cX1_wordsThen 21 = .ok (.invokestatic 140, 3) := by decide +kernel
theorem dX1_wordsThen_24 : decode cX1_wordsThen 24 = .ok (.istore_n 3, 1) := by decide +kernel
theorem dX1_wordsThen_25 : decode cX1_wordsThen 25 = .ok (.iload_n 3, 1) := by decide +kernel
theorem dX1_wordsThen_26 : decode cX1_wordsThen 26 = .ok (.ifCond .eq 9, 3) := by decide +kernel
theorem dX1_wordsThen_29 : decode cX1_wordsThen 29 = .ok (.aload_n 0, 1) := by decide +kernel
theorem dX1_wordsThen_30 : decode cX1_wordsThen 30 = .ok (.iload_n 3, 1) := by decide +kernel
theorem dX1_wordsThen_31 : decode cX1_wordsThen 31 = .ok (.invokevirtual 52, 3) := by decide +kernel
theorem dX1_wordsThen_34 : decode cX1_wordsThen 34 = .ok (.ireturn, 1) := by decide +kernel
theorem dX1_wordsThen_35 : decode cX1_wordsThen 35 = .ok (.aload_n 0, 1) := by decide +kernel
theorem dX1_wordsThen_36 : decode cX1_wordsThen 36 = .ok (.iload_n 2, 1) := by decide +kernel
theorem dX1_wordsThen_37 : decode cX1_wordsThen 37 = .ok (.invokevirtual 153, 3) := by decide +kernel
theorem dX1_wordsThen_40 : decode cX1_wordsThen 40 = .ok (.aload_n 0, 1) := by decide +kernel
theorem dX1_wordsThen_41 : decode cX1_wordsThen 41 = .ok (.getfield 16, 3) := by decide +kernel
theorem dX1_wordsThen_44 : decode cX1_wordsThen 44 = .ok (.iload_n 1, 1) := by decide +kernel
theorem dX1_wordsThen_45 : decode cX1_wordsThen 45 = .ok (.invokevirtual 109, 3) := by decide +kernel
theorem dX1_wordsThen_48 : decode cX1_wordsThen 48 = .ok (.ireturn, 1) := by decide +kernel
theorem dX1_then_0 : decode cX1_then 0 = .ok (.iload_n 1, 1) := by decide +kernel
theorem dX1_then_1 : decode cX1_then 1 = .ok (.iconst 0, 1) := by decide +kernel
theorem dX1_then_2 : decode cX1_then 2 = .ok (.bipush 60, 2) := by decide +kernel
theorem dX1_then_4 : decode cX1_then 4 = .ok (.invokestatic 140, 3) := by decide +kernel
theorem dX1_then_7 : decode cX1_then 7 = .ok (.istore_n 3, 1) := by decide +kernel
theorem dX1_then_8 : decode cX1_then 8 = .ok (.iload_n 3, 1) := by decide +kernel
theorem dX1_then_9 : decode cX1_then 9 = .ok (.ifCond .eq 9, 3) := by decide +kernel
theorem dX1_then_12 : decode cX1_then 12 = .ok (.aload_n 0, 1) := by decide +kernel
theorem dX1_then_13 : decode cX1_then 13 = .ok (.iload_n 3, 1) := by decide +kernel
theorem dX1_then_14 : decode cX1_then 14 = .ok (.invokevirtual 52, 3) := by decide +kernel
theorem dX1_then_17 : decode cX1_then 17 = .ok (.ireturn, 1) := by decide +kernel
theorem dX1_then_18 : decode cX1_then 18 = .ok (.iload_n 2, 1) := by decide +kernel
theorem dX1_then_19 : decode cX1_then 19 = .ok (.invokestatic 156, 3) := by decide +kernel
theorem dX1_then_22 : decode cX1_then 22 = .ok (.ifCond .ne 10, 3) := by decide +kernel
theorem dX1_then_25 : decode cX1_then 25 = .ok (.aload_n 0, 1) := by decide +kernel
theorem dX1_then_26 : decode cX1_then 26 = .ok (.bipush (-2), 2) := by decide +kernel
theorem dX1_then_28 : decode cX1_then 28 = .ok (.invokevirtual 52, 3) := by decide +kernel
theorem dX1_then_31 : decode cX1_then 31 = .ok (.ireturn, 1) := by decide +kernel
theorem dX1_then_32 : decode cX1_then 32 = .ok (.aload_n 0, 1) := by decide +kernel
theorem dX1_then_33 : decode cX1_then 33 = .ok (.iload_n 1, 1) := by decide +kernel
theorem dX1_then_34 : decode cX1_then 34 = .ok (.invokevirtual 153, 3) := by decide +kernel
theorem dX1_then_37 : decode cX1_then 37 = .ok (.iload_n 2, 1) := by decide +kernel
theorem dX1_then_38 : decode cX1_then 38 = .ok (.ifCond .ne 13, 3) := by decide +kernel
theorem dX1_then_41 : decode cX1_then 41 = .ok (.aload_n 0, 1) := by decide +kernel
theorem dX1_then_42 : decode cX1_then 42 = .ok (.getfield 16, 3) := by decide +kernel
theorem dX1_then_45 : decode cX1_then 45 = .ok (.getfield 122, 3) := by decide +kernel
theorem dX1_then_48 : decode cX1_then 48 = .ok (.goto 10, 3) := by decide +kernel
theorem dX1_then_51 : decode cX1_then 51 = .ok (.aload_n 0, 1) := by decide +kernel
theorem dX1_then_52 : decode cX1_then 52 = .ok (.getfield 16, 3) := by decide +kernel
theorem dX1_then_55 : decode cX1_then 55 = .ok (.getfield 132, 3) := by decide +kernel
theorem dX1_then_58 : decode cX1_then 58 = .ok (.ireturn, 1) := by decide +kernel
theorem dX1_whole_0 : decode cX1_whole 0 = .ok (.iload_n 1, 1) := by decide +kernel
theorem dX1_whole_1 : decode cX1_whole 1 = .ok (.iconst (-1), 1) := by decide +kernel
theorem dX1_whole_2 : decode cX1_whole 2 = .ok (.if_icmp .ne 8, 3) := by decide +kernel
theorem dX1_whole_5 : decode cX1_whole 5 = .ok (.aload_n 0, 1) := by decide +kernel
theorem dX1_whole_6 : decode cX1_whole 6 = .ok (.invokevirtual 159, 3) := by decide +kernel
theorem dX1_whole_9 : decode cX1_whole 9 = .ok (.ireturn, 1) := by decide +kernel
theorem dX1_whole_10 : decode cX1_whole 10 = .ok (.aload_n 0, 1) := by decide +kernel
theorem dX1_whole_11 : decode cX1_whole 11 = .ok (.getfield 10, 3) := by decide +kernel
theorem dX1_whole_14 : decode cX1_whole 14 = .ok (.iload_n 1, 1) := by decide +kernel
theorem dX1_whole_15 : decode cX1_whole 15 = .ok (.invokevirtual 100, 3) := by decide +kernel
theorem dX1_whole_18 : decode cX1_whole 18 = .ok (.ifCond .ne 9, 3) := by decide +kernel
theorem dX1_whole_21 : decode cX1_whole 21 = .ok (.aload_n 0, 1) := by decide +kernel
theorem dX1_whole_22 : decode cX1_whole 22 = .ok (.iconst (-1), 1) := by decide +kernel
theorem dX1_whole_23 : decode cX1_whole 23 = .ok (.invokevirtual 52, 3) := by decide +kernel
theorem dX1_whole_26 : decode cX1_whole 26 = .ok (.ireturn, 1) := by decide +kernel
theorem dX1_whole_27 : decode cX1_whole 27 = .ok (.aload_n 0, 1) := by decide +kernel
theorem dX1_whole_28 : decode cX1_whole 28 = .ok (.iload_n 1, 1) := by decide +kernel
theorem dX1_whole_29 : decode cX1_whole 29 = .ok (.invokevirtual 163, 3) := by decide +kernel
theorem dX1_whole_32 : decode cX1_whole 32 = .ok (.ireturn, 1) := by decide +kernel
theorem dX1_next_0 : decode cX1_next 0 = .ok (.iload_n 1, 1) := by decide +kernel
theorem dX1_next_1 : decode cX1_next 1 = .ok (.invokestatic 156, 3) := by decide +kernel
theorem dX1_next_4 : decode cX1_next 4 = .ok (.ifCond .ne 10, 3) := by decide +kernel
theorem dX1_next_7 : decode cX1_next 7 = .ok (.aload_n 0, 1) := by decide +kernel
theorem dX1_next_8 : decode cX1_next 8 = .ok (.bipush (-2), 2) := by decide +kernel
theorem dX1_next_10 : decode cX1_next 10 = .ok (.invokevirtual 52, 3) := by decide +kernel
theorem dX1_next_13 : decode cX1_next 13 = .ok (.ireturn, 1) := by decide +kernel
theorem dX1_next_14 : decode cX1_next 14 = .ok (.iload_n 1, 1) := by decide +kernel
theorem dX1_next_15 : decode cX1_next 15 = .ok (.ifCond .ne 13, 3) := by decide +kernel
theorem dX1_next_18 : decode cX1_next 18 = .ok (.aload_n 0, 1) := by decide +kernel
theorem dX1_next_19 : decode cX1_next 19 = .ok (.getfield 10, 3) := by decide +kernel
theorem dX1_next_22 : decode cX1_next 22 = .ok (.invokevirtual 166, 3) := by decide +kernel
theorem dX1_next_25 : decode cX1_next 25 = .ok (.goto 7, 3) := by decide +kernel
theorem dX1_next_28 : decode cX1_next 28 = .ok (.aload_n 0, 1) := by decide +kernel
theorem dX1_next_29 : decode cX1_next 29 = .ok (.invokevirtual 169, 3) := by decide +kernel
theorem dX1_next_32 : decode cX1_next 32 = .ok (.ireturn, 1) := by decide +kernel
theorem dX1_fewest_0 : decode cX1_fewest 0 = .ok (.aload_n 0, 1) := by decide +kernel
theorem dX1_fewest_1 : decode cX1_fewest 1 = .ok (.getfield 10, 3) := by decide +kernel
theorem dX1_fewest_4 : decode cX1_fewest 4 = .ok (.iload_n 1, 1) := by decide +kernel
theorem dX1_fewest_5 : decode cX1_fewest 5 = .ok (.invokevirtual 100, 3) := by decide +kernel
theorem dX1_fewest_8 : decode cX1_fewest 8 = .ok (.ifCond .ne 9, 3) := by decide +kernel
theorem dX1_fewest_11 : decode cX1_fewest 11 = .ok (.aload_n 0, 1) := by decide +kernel
theorem dX1_fewest_12 : decode cX1_fewest 12 = .ok (.iconst (-1), 1) := by decide +kernel
theorem dX1_fewest_13 : decode cX1_fewest 13 = .ok (.invokevirtual 52, 3) := by decide +kernel
theorem dX1_fewest_16 : decode cX1_fewest 16 = .ok (.ireturn, 1) := by decide +kernel
theorem dX1_fewest_17 : decode cX1_fewest 17 = .ok (.iload_n 2, 1) := by decide +kernel
theorem dX1_fewest_18 : decode cX1_fewest 18 = .ok (.invokestatic 156, 3) := by decide +kernel
theorem dX1_fewest_21 : decode cX1_fewest 21 = .ok (.ifCond .ne 10, 3) := by decide +kernel
theorem dX1_fewest_24 : decode cX1_fewest 24 = .ok (.aload_n 0, 1) := by decide +kernel
theorem dX1_fewest_25 : decode cX1_fewest 25 = .ok (.bipush (-2), 2) := by decide +kernel
theorem dX1_fewest_27 : decode cX1_fewest 27 = .ok (.invokevirtual 52, 3) := by decide +kernel
theorem dX1_fewest_30 : decode cX1_fewest 30 = .ok (.ireturn, 1) := by decide +kernel
theorem dX1_fewest_31 : decode cX1_fewest 31 = .ok (.aload_n 0, 1) := by decide +kernel
theorem dX1_fewest_32 : decode cX1_fewest 32 = .ok (.iload_n 1, 1) := by decide +kernel
theorem dX1_fewest_33 : decode cX1_fewest 33 = .ok (.invokevirtual 172, 3) := by decide +kernel
theorem dX1_fewest_36 : decode cX1_fewest 36 = .ok (.iload_n 2, 1) := by decide +kernel
theorem dX1_fewest_37 : decode cX1_fewest 37 = .ok (.ifCond .ne 11, 3) := by decide +kernel
theorem dX1_fewest_40 : decode cX1_fewest 40 = .ok (.aload_n 0, 1) := by decide +kernel
theorem dX1_fewest_41 : decode cX1_fewest 41 = .ok (.iload_n 1, 1) := by decide +kernel
theorem dX1_fewest_42 : decode cX1_fewest 42 = .ok (.invokevirtual 175, 3) := by decide +kernel
theorem dX1_fewest_45 : decode cX1_fewest 45 = .ok (.goto 8, 3) := by decide +kernel
theorem dX1_fewest_48 : decode cX1_fewest 48 = .ok (.aload_n 0, 1) := by decide +kernel
theorem dX1_fewest_49 : decode cX1_fewest 49 = .ok (.iload_n 1, 1) := by decide +kernel
theorem dX1_fewest_50 : decode cX1_fewest 50 = .ok (.invokevirtual 178, 3) := by decide +kernel
theorem dX1_fewest_53 : decode cX1_fewest 53 = .ok (.ireturn, 1) := by decide +kernel
theorem dX1_windBest_0 : decode cX1_windBest 0 = .ok (.iload_n 1, 1) := by decide +kernel
theorem dX1_windBest_1 : decode cX1_windBest 1 = .ok (.iconst 0, 1) := by decide +kernel
theorem dX1_windBest_2 : decode cX1_windBest 2 = .ok (.bipush 30, 2) := by decide +kernel
theorem dX1_windBest_4 : decode cX1_windBest 4 = .ok (.invokestatic 140, 3) := by decide +kernel
theorem dX1_windBest_7 : decode cX1_windBest 7 = .ok (.istore_n 3, 1) := by decide +kernel
theorem dX1_windBest_8 : decode cX1_windBest 8 = .ok (.iload_n 3, 1) := by decide +kernel
theorem dX1_windBest_9 : decode cX1_windBest 9 = .ok (.ifCond .eq 9, 3) := by decide +kernel
theorem dX1_windBest_12 : decode cX1_windBest 12 = .ok (.aload_n 0, 1) := by decide +kernel
theorem dX1_windBest_13 : decode cX1_windBest 13 = .ok (.iload_n 3, 1) := by decide +kernel
theorem dX1_windBest_14 : decode cX1_windBest 14 = .ok (.invokevirtual 52, 3) := by decide +kernel
theorem dX1_windBest_17 : decode cX1_windBest 17 = .ok (.ireturn, 1) := by decide +kernel
theorem dX1_windBest_18 : decode cX1_windBest 18 = .ok (.iload_n 2, 1) := by decide +kernel
theorem dX1_windBest_19 : decode cX1_windBest 19 = .ok (.invokestatic 156, 3) := by decide +kernel
theorem dX1_windBest_22 : decode cX1_windBest 22 = .ok (.ifCond .ne 10, 3) := by decide +kernel
theorem dX1_windBest_25 : decode cX1_windBest 25 = .ok (.aload_n 0, 1) := by decide +kernel
theorem dX1_windBest_26 : decode cX1_windBest 26 = .ok (.bipush (-2), 2) := by decide +kernel
theorem dX1_windBest_28 : decode cX1_windBest 28 = .ok (.invokevirtual 52, 3) := by decide +kernel
theorem dX1_windBest_31 : decode cX1_windBest 31 = .ok (.ireturn, 1) := by decide +kernel
theorem dX1_windBest_32 : decode cX1_windBest 32 = .ok (.iconst 0, 1) := by decide +kernel
theorem dX1_windBest_33 : decode cX1_windBest 33 = .ok (.istore 4, 2) := by decide +kernel
theorem dX1_windBest_35 : decode cX1_windBest 35 = .ok (.iconst (-1), 1) := by decide +kernel
theorem dX1_windBest_36 : decode cX1_windBest 36 = .ok (.istore 5, 2) := by decide +kernel
theorem dX1_windBest_38 : decode cX1_windBest 38 = .ok (.iconst 0, 1) := by decide +kernel
theorem dX1_windBest_39 : decode cX1_windBest 39 = .ok (.istore 6, 2) := by decide +kernel
theorem dX1_windBest_41 : decode cX1_windBest 41 = .ok (.iload 6, 2) := by decide +kernel
theorem dX1_windBest_43 : decode cX1_windBest 43 = .ok (.bipush 10, 2) := by decide +kernel
theorem dX1_windBest_45 : decode cX1_windBest 45 = .ok (.if_icmp .ge 63, 3) := by decide +kernel
theorem dX1_windBest_48 : decode cX1_windBest 48 = .ok (.aload_n 0, 1) := by decide +kernel
theorem dX1_windBest_49 : decode cX1_windBest 49 = .ok (.getfield 16, 3) := by decide +kernel
theorem dX1_windBest_52 : decode cX1_windBest 52 = .ok (.aload_n 0, 1) := by decide +kernel
theorem dX1_windBest_53 : decode cX1_windBest 53 = .ok (.getfield 10, 3) := by decide +kernel
theorem dX1_windBest_56 : decode cX1_windBest 56 = .ok (.invokevirtual 59, 3) := by decide +kernel
theorem dX1_windBest_59 : decode cX1_windBest 59 = .ok (.aload_n 0, 1) := by decide +kernel
theorem dX1_windBest_60 : decode cX1_windBest 60 = .ok (.getfield 16, 3) := by decide +kernel
theorem dX1_windBest_63 : decode cX1_windBest 63 = .ok (.iload 6, 2) := by decide +kernel
theorem dX1_windBest_65 : decode cX1_windBest 65 = .ok (.putfield 144, 3) := by decide +kernel
theorem dX1_windBest_68 : decode cX1_windBest 68 = .ok (.aload_n 0, 1) := by decide +kernel
theorem dX1_windBest_69 : decode cX1_windBest 69 = .ok (.getfield 16, 3) := by decide +kernel
theorem dX1_windBest_72 : decode cX1_windBest 72 = .ok (.iload_n 1, 1) := by decide +kernel
theorem dX1_windBest_73 : decode cX1_windBest 73 = .ok (.bipush 31, 2) := by decide +kernel
theorem dX1_windBest_75 : decode cX1_windBest 75 = .ok (.invokevirtual 150, 3) := by decide +kernel
theorem dX1_windBest_78 : decode cX1_windBest 78 = .ok (.aload_n 0, 1) := by decide +kernel
theorem dX1_windBest_79 : decode cX1_windBest 79 = .ok (.getfield 16, 3) := by decide +kernel
theorem dX1_windBest_82 : decode cX1_windBest 82 = .ok (.invokevirtual 181, 3) := by decide +kernel
theorem dX1_windBest_85 : decode cX1_windBest 85 = .ok (.istore 7, 2) := by decide +kernel
theorem dX1_windBest_87 : decode cX1_windBest 87 = .ok (.iload 7, 2) := by decide +kernel
theorem dX1_windBest_89 : decode cX1_windBest 89 = .ok (.iload 5, 2) := by decide +kernel
theorem dX1_windBest_91 : decode cX1_windBest 91 = .ok (.if_icmp .le 11, 3) := by decide +kernel
theorem dX1_windBest_94 : decode cX1_windBest 94 = .ok (.iload 7, 2) := by decide +kernel
theorem dX1_windBest_96 : decode cX1_windBest 96 = .ok (.istore 5, 2) := by decide +kernel
theorem dX1_windBest_98 : decode cX1_windBest 98 = .ok (.iload 6, 2) := by decide +kernel
theorem dX1_windBest_100 : decode cX1_windBest 100 = .ok (.istore 4, 2) := by decide +kernel
theorem dX1_windBest_102 : decode cX1_windBest 102 = .ok (.iinc 6 1, 3) := by decide +kernel
theorem dX1_windBest_105 : decode cX1_windBest 105 = .ok (.goto (-64), 3) := by decide +kernel
theorem dX1_windBest_108 : decode cX1_windBest 108 = .ok (.iload_n 2, 1) := by decide +kernel
theorem dX1_windBest_109 : decode cX1_windBest 109 = .ok (.ifCond .ne 8, 3) := by decide +kernel
theorem dX1_windBest_112 : decode cX1_windBest 112 = .ok (.iload 4, 2) := by decide +kernel
theorem dX1_windBest_114 : decode cX1_windBest 114 = .ok (.goto 5, 3) := by decide +kernel
theorem dX1_windBest_117 : decode cX1_windBest 117 = .ok (.iload 5, 2) := by decide +kernel
theorem dX1_windBest_119 : decode cX1_windBest 119 = .ok (.ireturn, 1) := by decide +kernel
theorem dX1_move_0 : decode cX1_move 0 = .ok (.aload_n 0, 1) := by decide +kernel
theorem dX1_move_1 : decode cX1_move 1 = .ok (.getfield 10, 3) := by decide +kernel
theorem dX1_move_4 : decode cX1_move 4 = .ok (.iload_n 1, 1) := by decide +kernel
theorem dX1_move_5 : decode cX1_move 5 = .ok (.invokevirtual 100, 3) := by decide +kernel
theorem dX1_move_8 : decode cX1_move 8 = .ok (.ifCond .ne 9, 3) := by decide +kernel
theorem dX1_move_11 : decode cX1_move 11 = .ok (.aload_n 0, 1) := by decide +kernel
theorem dX1_move_12 : decode cX1_move 12 = .ok (.iconst (-1), 1) := by decide +kernel
theorem dX1_move_13 : decode cX1_move 13 = .ok (.invokevirtual 52, 3) := by decide +kernel
theorem dX1_move_16 : decode cX1_move 16 = .ok (.ireturn, 1) := by decide +kernel
theorem dX1_move_17 : decode cX1_move 17 = .ok (.iload_n 2, 1) := by decide +kernel
theorem dX1_move_18 : decode cX1_move 18 = .ok (.iconst 0, 1) := by decide +kernel
theorem dX1_move_19 : decode cX1_move 19 = .ok (.bipush 30, 2) := by decide +kernel
theorem dX1_move_21 : decode cX1_move 21 = .ok (.invokestatic 140, 3) := by decide +kernel
theorem dX1_move_24 : decode cX1_move 24 = .ok (.istore 4, 2) := by decide +kernel
theorem dX1_move_26 : decode cX1_move 26 = .ok (.iload 4, 2) := by decide +kernel
theorem dX1_move_28 : decode cX1_move 28 = .ok (.ifCond .eq 10, 3) := by decide +kernel
theorem dX1_move_31 : decode cX1_move 31 = .ok (.aload_n 0, 1) := by decide +kernel
theorem dX1_move_32 : decode cX1_move 32 = .ok (.iload 4, 2) := by decide +kernel
theorem dX1_move_34 : decode cX1_move 34 = .ok (.invokevirtual 52, 3) := by decide +kernel
theorem dX1_move_37 : decode cX1_move 37 = .ok (.ireturn, 1) := by decide +kernel
theorem dX1_move_38 : decode cX1_move 38 = .ok (.iload_n 3, 1) := by decide +kernel
theorem dX1_move_39 : decode cX1_move 39 = .ok (.invokestatic 156, 3) := by decide +kernel
theorem dX1_move_42 : decode cX1_move 42 = .ok (.ifCond .ne 10, 3) := by decide +kernel
theorem dX1_move_45 : decode cX1_move 45 = .ok (.aload_n 0, 1) := by decide +kernel
theorem dX1_move_46 : decode cX1_move 46 = .ok (.bipush (-2), 2) := by decide +kernel
theorem dX1_move_48 : decode cX1_move 48 = .ok (.invokevirtual 52, 3) := by decide +kernel
theorem dX1_move_51 : decode cX1_move 51 = .ok (.ireturn, 1) := by decide +kernel
theorem dX1_move_52 : decode cX1_move 52 = .ok (.iconst 0, 1) := by decide +kernel
theorem dX1_move_53 : decode cX1_move 53 = .ok (.istore 5, 2) := by decide +kernel
theorem dX1_move_55 : decode cX1_move 55 = .ok (.iconst (-1), 1) := by decide +kernel
theorem dX1_move_56 : decode cX1_move 56 = .ok (.istore 6, 2) := by decide +kernel
theorem dX1_move_58 : decode cX1_move 58 = .ok (.iconst 0, 1) := by decide +kernel
theorem dX1_move_59 : decode cX1_move 59 = .ok (.istore 7, 2) := by decide +kernel
theorem dX1_move_61 : decode cX1_move 61 = .ok (.iload 7, 2) := by decide +kernel
theorem dX1_move_63 : decode cX1_move 63 = .ok (.bipush 20, 2) := by decide +kernel
theorem dX1_move_65 : decode cX1_move 65 = .ok (.if_icmp .ge 69, 3) := by decide +kernel
theorem dX1_move_68 : decode cX1_move 68 = .ok (.aload_n 0, 1) := by decide +kernel
theorem dX1_move_69 : decode cX1_move 69 = .ok (.getfield 16, 3) := by decide +kernel
theorem dX1_move_72 : decode cX1_move 72 = .ok (.aload_n 0, 1) := by decide +kernel
theorem dX1_move_73 : decode cX1_move 73 = .ok (.getfield 10, 3) := by decide +kernel
theorem dX1_move_76 : decode cX1_move 76 = .ok (.invokevirtual 59, 3) := by decide +kernel
theorem dX1_move_79 : decode cX1_move 79 = .ok (.aload_n 0, 1) := by decide +kernel
theorem dX1_move_80 : decode cX1_move 80 = .ok (.getfield 16, 3) := by decide +kernel
theorem dX1_move_83 : decode cX1_move 83 = .ok (.getfield 103, 3) := by decide +kernel
theorem dX1_move_86 : decode cX1_move 86 = .ok (.iload_n 1, 1) := by decide +kernel
theorem dX1_move_87 : decode cX1_move 87 = .ok (.iload 7, 2) := by decide +kernel
theorem dX1_move_89 : decode cX1_move 89 = .ok (.iastore, 1) := by decide +kernel
theorem dX1_move_90 : decode cX1_move 90 = .ok (.aload_n 0, 1) := by decide +kernel
theorem dX1_move_91 : decode cX1_move 91 = .ok (.getfield 16, 3) := by decide +kernel
theorem dX1_move_94 : decode cX1_move 94 = .ok (.iload_n 2, 1) := by decide +kernel
theorem dX1_move_95 : decode cX1_move 95 = .ok (.bipush 31, 2) := by decide +kernel
theorem dX1_move_97 : decode cX1_move 97 = .ok (.invokevirtual 150, 3) := by decide +kernel
theorem dX1_move_100 : decode cX1_move 100 = .ok (.aload_n 0, 1) := by decide +kernel
theorem dX1_move_101 : decode cX1_move 101 = .ok (.getfield 16, 3) := by decide +kernel
theorem dX1_move_104 : decode cX1_move 104 = .ok (.iload_n 1, 1) := by decide +kernel
theorem dX1_move_105 : decode cX1_move 105 = .ok (.invokevirtual 109, 3) := by decide +kernel
theorem dX1_move_108 : decode cX1_move 108 = .ok (.invokestatic 135, 3) := by decide +kernel
theorem dX1_move_111 : decode cX1_move 111 = .ok (.istore 8, 2) := by decide +kernel
theorem dX1_move_113 : decode cX1_move 113 = .ok (.iload 8, 2) := by decide +kernel
theorem dX1_move_115 : decode cX1_move 115 = .ok (.iload 6, 2) := by decide +kernel
theorem dX1_move_117 : decode cX1_move 117 = .ok (.if_icmp .le 11, 3) := by decide +kernel
theorem dX1_move_120 : decode cX1_move 120 = .ok (.iload 8, 2) := by decide +kernel
theorem dX1_move_122 : decode cX1_move 122 = .ok (.istore 6, 2) := by decide +kernel
theorem dX1_move_124 : decode cX1_move 124 = .ok (.iload 7, 2) := by decide +kernel
theorem dX1_move_126 : decode cX1_move 126 = .ok (.istore 5, 2) := by decide +kernel
theorem dX1_move_128 : decode cX1_move 128 = .ok (.iinc 7 1, 3) := by decide +kernel
theorem dX1_move_131 : decode cX1_move 131 = .ok (.goto (-70), 3) := by decide +kernel
theorem dX1_move_134 : decode cX1_move 134 = .ok (.iload_n 3, 1) := by decide +kernel
theorem dX1_move_135 : decode cX1_move 135 = .ok (.ifCond .ne 8, 3) := by decide +kernel
theorem dX1_move_138 : decode cX1_move 138 = .ok (.iload 5, 2) := by decide +kernel
theorem dX1_move_140 : decode cX1_move 140 = .ok (.goto 5, 3) := by decide +kernel
theorem dX1_move_143 : decode cX1_move 143 = .ok (.iload 6, 2) := by decide +kernel
theorem dX1_move_145 : decode cX1_move 145 = .ok (.ireturn, 1) := by decide +kernel
theorem dX1_forgo_0 : decode cX1_forgo 0 = .ok (.iload_n 1, 1) := by decide +kernel
theorem dX1_forgo_1 : decode cX1_forgo 1 = .ok (.iconst 1, 1) := by decide +kernel
theorem dX1_forgo_2 : decode cX1_forgo 2 = .ok (.bipush 30, 2) := by decide +kernel
theorem dX1_forgo_4 : decode cX1_forgo 4 = .ok (.invokestatic 140, 3) := by decide +kernel
theorem dX1_forgo_7 : decode cX1_forgo 7 = .ok (.istore_n 2, 1) := by decide +kernel
theorem dX1_forgo_8 : decode cX1_forgo 8 = .ok (.iload_n 2, 1) := by decide +kernel
theorem dX1_forgo_9 : decode cX1_forgo 9 = .ok (.ifCond .eq 9, 3) := by decide +kernel
theorem dX1_forgo_12 : decode cX1_forgo 12 = .ok (.aload_n 0, 1) := by decide +kernel
theorem dX1_forgo_13 : decode cX1_forgo 13 = .ok (.iload_n 2, 1) := by decide +kernel
theorem dX1_forgo_14 : decode cX1_forgo 14 = .ok (.invokevirtual 52, 3) := by decide +kernel
theorem dX1_forgo_17 : decode cX1_forgo 17 = .ok (.ireturn, 1) := by decide +kernel
theorem dX1_forgo_18 : decode cX1_forgo 18 = .ok (.aload_n 0, 1) := by decide +kernel
theorem dX1_forgo_19 : decode cX1_forgo 19 = .ok (.iload_n 1, 1) := by decide +kernel
theorem dX1_forgo_20 : decode cX1_forgo 20 = .ok (.iconst 0, 1) := by decide +kernel
theorem dX1_forgo_21 : decode cX1_forgo 21 = .ok (.invokevirtual 184, 3) := by decide +kernel
theorem dX1_forgo_24 : decode cX1_forgo 24 = .ok (.ireturn, 1) := by decide +kernel
theorem dX1_firstUp_0 : decode cX1_firstUp 0 = .ok (.iload_n 1, 1) := by decide +kernel
theorem dX1_firstUp_1 : decode cX1_firstUp 1 = .ok (.iconst 1, 1) := by decide +kernel
theorem dX1_firstUp_2 : decode cX1_firstUp 2 = .ok (.bipush 30, 2) := by decide +kernel
theorem dX1_firstUp_4 : decode cX1_firstUp 4 = .ok (.invokestatic 140, 3) := by decide +kernel
theorem dX1_firstUp_7 : decode cX1_firstUp 7 = .ok (.istore_n 2, 1) := by decide +kernel
theorem dX1_firstUp_8 : decode cX1_firstUp 8 = .ok (.iload_n 2, 1) := by decide +kernel
theorem dX1_firstUp_9 : decode cX1_firstUp 9 = .ok (.ifCond .eq 9, 3) := by decide +kernel
theorem dX1_firstUp_12 : decode cX1_firstUp 12 = .ok (.aload_n 0, 1) := by decide +kernel
theorem dX1_firstUp_13 : decode cX1_firstUp 13 = .ok (.iload_n 2, 1) := by decide +kernel
theorem dX1_firstUp_14 : decode cX1_firstUp 14 = .ok (.invokevirtual 52, 3) := by decide +kernel
theorem dX1_firstUp_17 : decode cX1_firstUp 17 = .ok (.ireturn, 1) := by decide +kernel
theorem dX1_firstUp_18 : decode cX1_firstUp 18 = .ok (.aload_n 0, 1) := by decide +kernel
theorem dX1_firstUp_19 : decode cX1_firstUp 19 = .ok (.iload_n 1, 1) := by decide +kernel
theorem dX1_firstUp_20 : decode cX1_firstUp 20 = .ok (.iconst 1, 1) := by decide +kernel
theorem dX1_firstUp_21 : decode cX1_firstUp 21 = .ok (.invokevirtual 184, 3) := by decide +kernel
theorem dX1_firstUp_24 : decode cX1_firstUp 24 = .ok (.ireturn, 1) := by decide +kernel
theorem dX1_longest_0 : decode cX1_longest 0 = .ok (.iload_n 1, 1) := by decide +kernel
theorem dX1_longest_1 : decode cX1_longest 1 = .ok (.invokestatic 156, 3) := by decide +kernel
theorem dX1_longest_4 : decode cX1_longest 4 = .ok (.ifCond .ne 10, 3) := by decide +kernel
theorem dX1_longest_7 : decode cX1_longest 7 = .ok (.aload_n 0, 1) := by decide +kernel
theorem dX1_longest_8 : decode cX1_longest 8 = .ok (.bipush (-2), 2) := by decide +kernel
theorem dX1_longest_10 : decode cX1_longest 10 = .ok (.invokevirtual 52, 3) := by decide +kernel
theorem dX1_longest_13 : decode cX1_longest 13 = .ok (.ireturn, 1) := by decide +kernel
theorem dX1_longest_14 : decode cX1_longest 14 = .ok (.iload_n 1, 1) := by decide +kernel
theorem dX1_longest_15 : decode cX1_longest 15 = .ok (.ifCond .ne 10, 3) := by decide +kernel
theorem dX1_longest_18 : decode cX1_longest 18 = .ok (.aload_n 0, 1) := by decide +kernel
theorem dX1_longest_19 : decode cX1_longest 19 = .ok (.invokevirtual 188, 3) := by decide +kernel
theorem dX1_longest_22 : decode cX1_longest 22 = .ok (.goto 7, 3) := by decide +kernel
theorem dX1_longest_25 : decode cX1_longest 25 = .ok (.aload_n 0, 1) := by decide +kernel
theorem dX1_longest_26 : decode cX1_longest 26 = .ok (.invokevirtual 191, 3) := by decide +kernel
theorem dX1_longest_29 : decode cX1_longest 29 = .ok (.ireturn, 1) := by decide +kernel
theorem dX1_seen_0 : decode cX1_seen 0 = .ok (.iload_n 1, 1) := by decide +kernel
theorem dX1_seen_1 : decode cX1_seen 1 = .ok (.invokestatic 156, 3) := by decide +kernel
theorem dX1_seen_4 : decode cX1_seen 4 = .ok (.ifCond .ne 10, 3) := by decide +kernel
theorem dX1_seen_7 : decode cX1_seen 7 = .ok (.aload_n 0, 1) := by decide +kernel
theorem dX1_seen_8 : decode cX1_seen 8 = .ok (.bipush (-2), 2) := by decide +kernel
theorem dX1_seen_10 : decode cX1_seen 10 = .ok (.invokevirtual 52, 3) := by decide +kernel
theorem dX1_seen_13 : decode cX1_seen 13 = .ok (.ireturn, 1) := by decide +kernel
theorem dX1_seen_14 : decode cX1_seen 14 = .ok (.bipush (-9), 2) := by decide +kernel
theorem dX1_seen_16 : decode cX1_seen 16 = .ok (.istore_n 2, 1) := by decide +kernel
theorem dX1_seen_17 : decode cX1_seen 17 = .ok (.iconst 0, 1) := by decide +kernel
theorem dX1_seen_18 : decode cX1_seen 18 = .ok (.istore_n 3, 1) := by decide +kernel
theorem dX1_seen_19 : decode cX1_seen 19 = .ok (.iconst 0, 1) := by decide +kernel
theorem dX1_seen_20 : decode cX1_seen 20 = .ok (.istore 4, 2) := by decide +kernel
theorem dX1_seen_22 : decode cX1_seen 22 = .ok (.iload 4, 2) := by decide +kernel
theorem dX1_seen_24 : decode cX1_seen 24 = .ok (.aload_n 0, 1) := by decide +kernel
theorem dX1_seen_25 : decode cX1_seen 25 = .ok (.getfield 10, 3) := by decide +kernel
theorem dX1_seen_28 : decode cX1_seen 28 = .ok (.getfield 129, 3) := by decide +kernel
theorem dX1_seen_31 : decode cX1_seen 31 = .ok (.if_icmp .ge 41, 3) := by decide +kernel
theorem dX1_seen_34 : decode cX1_seen 34 = .ok (.aload_n 0, 1) := by decide +kernel
theorem dX1_seen_35 : decode cX1_seen 35 = .ok (.getfield 10, 3) := by decide +kernel
theorem dX1_seen_38 : decode cX1_seen 38 = .ok (.iload 4, 2) := by decide +kernel
theorem dX1_seen_40 : decode cX1_seen 40 = .ok (.invokevirtual 97, 3) := by decide +kernel
theorem dX1_seen_43 : decode cX1_seen 43 = .ok (.invokestatic 135, 3) := by decide +kernel
theorem dX1_seen_46 : decode cX1_seen 46 = .ok (.istore 5, 2) := by decide +kernel
theorem dX1_seen_48 : decode cX1_seen 48 = .ok (.iload_n 2, 1) := by decide +kernel
theorem dX1_seen_49 : decode cX1_seen 49 = .ok (.bipush (-9), 2) := by decide +kernel
theorem dX1_seen_51 : decode cX1_seen 51 = .ok (.if_icmp .eq 9, 3) := by decide +kernel
theorem dX1_seen_54 : decode cX1_seen 54 = .ok (.iload 5, 2) := by decide +kernel
theorem dX1_seen_56 : decode cX1_seen 56 = .ok (.iload_n 3, 1) := by decide +kernel
theorem dX1_seen_57 : decode cX1_seen 57 = .ok (.if_icmp .le 9, 3) := by decide +kernel
theorem dX1_seen_60 : decode cX1_seen 60 = .ok (.iload 5, 2) := by decide +kernel
theorem dX1_seen_62 : decode cX1_seen 62 = .ok (.istore_n 3, 1) := by decide +kernel
theorem dX1_seen_63 : decode cX1_seen 63 = .ok (.iload 4, 2) := by decide +kernel
theorem dX1_seen_65 : decode cX1_seen 65 = .ok (.istore_n 2, 1) := by decide +kernel
theorem dX1_seen_66 : decode cX1_seen 66 = .ok (.iinc 4 1, 3) := by decide +kernel
theorem dX1_seen_69 : decode cX1_seen 69 = .ok (.goto (-47), 3) := by decide +kernel
theorem dX1_seen_72 : decode cX1_seen 72 = .ok (.iload_n 1, 1) := by decide +kernel
theorem dX1_seen_73 : decode cX1_seen 73 = .ok (.ifCond .ne 7, 3) := by decide +kernel
theorem dX1_seen_76 : decode cX1_seen 76 = .ok (.iload_n 3, 1) := by decide +kernel
theorem dX1_seen_77 : decode cX1_seen 77 = .ok (.goto 4, 3) := by decide +kernel
theorem dX1_seen_80 : decode cX1_seen 80 = .ok (.iload_n 2, 1) := by decide +kernel
theorem dX1_seen_81 : decode cX1_seen 81 = .ok (.ireturn, 1) := by decide +kernel
theorem dX1_words_0 : decode cX1_words 0 = .ok (.iload_n 1, 1) := by decide +kernel
theorem dX1_words_1 : decode cX1_words 1 = .ok (.tableswitch 42 0 2 #[27, 32, 37], 27) := by decide +kernel
theorem dX1_words_28 : decode cX1_words 28 = .ok (.aload_n 0, 1) := by decide +kernel
theorem dX1_words_29 : decode cX1_words 29 = .ok (.invokevirtual 194, 3) := by decide +kernel
theorem dX1_words_32 : decode cX1_words 32 = .ok (.ireturn, 1) := by decide +kernel
theorem dX1_words_33 : decode cX1_words 33 = .ok (.aload_n 0, 1) := by decide +kernel
theorem dX1_words_34 : decode cX1_words 34 = .ok (.invokevirtual 197, 3) := by decide +kernel
theorem dX1_words_37 : decode cX1_words 37 = .ok (.ireturn, 1) := by decide +kernel
theorem dX1_words_38 : decode cX1_words 38 = .ok (.aload_n 0, 1) := by decide +kernel
theorem dX1_words_39 : decode cX1_words 39 = .ok (.invokevirtual 200, 3) := by decide +kernel
theorem dX1_words_42 : decode cX1_words 42 = .ok (.ireturn, 1) := by decide +kernel
theorem dX1_words_43 : decode cX1_words 43 = .ok (.aload_n 0, 1) := by decide +kernel
theorem dX1_words_44 : decode cX1_words 44 = .ok (.bipush (-2), 2) := by decide +kernel
theorem dX1_words_46 : decode cX1_words 46 = .ok (.invokevirtual 52, 3) := by decide +kernel
theorem dX1_words_49 : decode cX1_words 49 = .ok (.ireturn, 1) := by decide +kernel
theorem dX1_near_0 : decode cX1_near 0 = .ok (.bipush (-9), 2) := by decide +kernel
theorem dX1_near_2 : decode cX1_near 2 = .ok (.istore_n 1, 1) := by decide +kernel
theorem dX1_near_3 : decode cX1_near 3 = .ok (.bipush 20, 2) := by decide +kernel
theorem dX1_near_5 : decode cX1_near 5 = .ok (.istore_n 2, 1) := by decide +kernel
theorem dX1_near_6 : decode cX1_near 6 = .ok (.iconst 0, 1) := by decide +kernel
theorem dX1_near_7 : decode cX1_near 7 = .ok (.istore_n 3, 1) := by decide +kernel
theorem dX1_near_8 : decode cX1_near 8 = .ok (.iload_n 3, 1) := by decide +kernel
theorem dX1_near_9 : decode cX1_near 9 = .ok (.aload_n 0, 1) := by decide +kernel
theorem dX1_near_10 : decode cX1_near 10 = .ok (.getfield 10, 3) := by decide +kernel
theorem dX1_near_13 : decode cX1_near 13 = .ok (.getfield 203, 3) := by decide +kernel
theorem dX1_near_16 : decode cX1_near 16 = .ok (.if_icmp .ge 37, 3) := by decide +kernel
theorem dX1_near_19 : decode cX1_near 19 = .ok (.aload_n 0, 1) := by decide +kernel
theorem dX1_near_20 : decode cX1_near 20 = .ok (.getfield 10, 3) := by decide +kernel
theorem dX1_near_23 : decode cX1_near 23 = .ok (.getfield 103, 3) := by decide +kernel
theorem dX1_near_26 : decode cX1_near 26 = .ok (.iload_n 3, 1) := by decide +kernel
theorem dX1_near_27 : decode cX1_near 27 = .ok (.iaload, 1) := by decide +kernel
theorem dX1_near_28 : decode cX1_near 28 = .ok (.bipush 10, 2) := by decide +kernel
theorem dX1_near_30 : decode cX1_near 30 = .ok (.isub, 1) := by decide +kernel
theorem dX1_near_31 : decode cX1_near 31 = .ok (.invokestatic 206, 3) := by decide +kernel
theorem dX1_near_34 : decode cX1_near 34 = .ok (.istore 4, 2) := by decide +kernel
theorem dX1_near_36 : decode cX1_near 36 = .ok (.iload 4, 2) := by decide +kernel
theorem dX1_near_38 : decode cX1_near 38 = .ok (.iload_n 2, 1) := by decide +kernel
theorem dX1_near_39 : decode cX1_near 39 = .ok (.if_icmp .ge 8, 3) := by decide +kernel
theorem dX1_near_42 : decode cX1_near 42 = .ok (.iload 4, 2) := by decide +kernel
theorem dX1_near_44 : decode cX1_near 44 = .ok (.istore_n 2, 1) := by decide +kernel
theorem dX1_near_45 : decode cX1_near 45 = .ok (.iload_n 3, 1) := by decide +kernel
theorem dX1_near_46 : decode cX1_near 46 = .ok (.istore_n 1, 1) := by decide +kernel
theorem dX1_near_47 : decode cX1_near 47 = .ok (.iinc 3 1, 3) := by decide +kernel
theorem dX1_near_50 : decode cX1_near 50 = .ok (.goto (-42), 3) := by decide +kernel
theorem dX1_near_53 : decode cX1_near 53 = .ok (.iload_n 1, 1) := by decide +kernel
theorem dX1_near_54 : decode cX1_near 54 = .ok (.ireturn, 1) := by decide +kernel
theorem dX1_alone_0 : decode cX1_alone 0 = .ok (.iconst 0, 1) := by decide +kernel
theorem dX1_alone_1 : decode cX1_alone 1 = .ok (.istore_n 1, 1) := by decide +kernel
theorem dX1_alone_2 : decode cX1_alone 2 = .ok (.iconst 0, 1) := by decide +kernel
theorem dX1_alone_3 : decode cX1_alone 3 = .ok (.istore_n 2, 1) := by decide +kernel
theorem dX1_alone_4 : decode cX1_alone 4 = .ok (.iload_n 2, 1) := by decide +kernel
theorem dX1_alone_5 : decode cX1_alone 5 = .ok (.aload_n 0, 1) := by decide +kernel
theorem dX1_alone_6 : decode cX1_alone 6 = .ok (.getfield 10, 3) := by decide +kernel
theorem dX1_alone_9 : decode cX1_alone 9 = .ok (.getfield 203, 3) := by decide +kernel
theorem dX1_alone_12 : decode cX1_alone 12 = .ok (.if_icmp .ge 71, 3) := by decide +kernel
theorem dX1_alone_15 : decode cX1_alone 15 = .ok (.iconst 0, 1) := by decide +kernel
theorem dX1_alone_16 : decode cX1_alone 16 = .ok (.istore_n 3, 1) := by decide +kernel
theorem dX1_alone_17 : decode cX1_alone 17 = .ok (.iconst 0, 1) := by decide +kernel
theorem dX1_alone_18 : decode cX1_alone 18 = .ok (.istore 4, 2) := by decide +kernel
theorem dX1_alone_20 : decode cX1_alone 20 = .ok (.iload 4, 2) := by decide +kernel
theorem dX1_alone_22 : decode cX1_alone 22 = .ok (.aload_n 0, 1) := by decide +kernel
theorem dX1_alone_23 : decode cX1_alone 23 = .ok (.getfield 10, 3) := by decide +kernel
theorem dX1_alone_26 : decode cX1_alone 26 = .ok (.getfield 203, 3) := by decide +kernel
theorem dX1_alone_29 : decode cX1_alone 29 = .ok (.if_icmp .ge 27, 3) := by decide +kernel
theorem dX1_alone_32 : decode cX1_alone 32 = .ok (.iload 4, 2) := by decide +kernel
theorem dX1_alone_34 : decode cX1_alone 34 = .ok (.iload_n 2, 1) := by decide +kernel
theorem dX1_alone_35 : decode cX1_alone 35 = .ok (.if_icmp .eq 15, 3) := by decide +kernel
theorem dX1_alone_38 : decode cX1_alone 38 = .ok (.iload_n 3, 1) := by decide +kernel
theorem dX1_alone_39 : decode cX1_alone 39 = .ok (.aload_n 0, 1) := by decide +kernel
theorem dX1_alone_40 : decode cX1_alone 40 = .ok (.getfield 10, 3) := by decide +kernel
theorem dX1_alone_43 : decode cX1_alone 43 = .ok (.iload 4, 2) := by decide +kernel
theorem dX1_alone_45 : decode cX1_alone 45 = .ok (.invokevirtual 109, 3) := by decide +kernel
theorem dX1_alone_48 : decode cX1_alone 48 = .ok (.ior, 1) := by decide +kernel
theorem dX1_alone_49 : decode cX1_alone 49 = .ok (.istore_n 3, 1) := by decide +kernel
theorem dX1_alone_50 : decode cX1_alone 50 = .ok (.iinc 4 1, 3) := by decide +kernel
theorem dX1_alone_53 : decode cX1_alone 53 = .ok (.goto (-33), 3) := by decide +kernel
theorem dX1_alone_56 : decode cX1_alone 56 = .ok (.aload_n 0, 1) := by decide +kernel
theorem dX1_alone_57 : decode cX1_alone 57 = .ok (.getfield 10, 3) := by decide +kernel
theorem dX1_alone_60 : decode cX1_alone 60 = .ok (.iload_n 2, 1) := by decide +kernel
theorem dX1_alone_61 : decode cX1_alone 61 = .ok (.invokevirtual 109, 3) := by decide +kernel
theorem dX1_alone_64 : decode cX1_alone 64 = .ok (.iload_n 3, 1) := by decide +kernel
theorem dX1_alone_65 : decode cX1_alone 65 = .ok (.iconst (-1), 1) := by decide +kernel
theorem dX1_alone_66 : decode cX1_alone 66 = .ok (.ixor, 1) := by decide +kernel
theorem dX1_alone_67 : decode cX1_alone 67 = .ok (.iand, 1) := by decide +kernel
theorem dX1_alone_68 : decode cX1_alone 68 = .ok (.ifCond .eq 9, 3) := by decide +kernel
theorem dX1_alone_71 : decode cX1_alone 71 = .ok (.iload_n 1, 1) := by decide +kernel
theorem dX1_alone_72 : decode cX1_alone 72 = .ok (.iconst 1, 1) := by decide +kernel
theorem dX1_alone_73 : decode cX1_alone 73 = .ok (.iload_n 2, 1) := by decide +kernel
theorem dX1_alone_74 : decode cX1_alone 74 = .ok (.ishl, 1) := by decide +kernel
theorem dX1_alone_75 : decode cX1_alone 75 = .ok (.ior, 1) := by decide +kernel
theorem dX1_alone_76 : decode cX1_alone 76 = .ok (.istore_n 1, 1) := by decide +kernel
theorem dX1_alone_77 : decode cX1_alone 77 = .ok (.iinc 2 1, 3) := by decide +kernel
theorem dX1_alone_80 : decode cX1_alone 80 = .ok (.goto (-76), 3) := by decide +kernel
theorem dX1_alone_83 : decode cX1_alone 83 = .ok (.iload_n 1, 1) := by decide +kernel
theorem dX1_alone_84 : decode cX1_alone 84 = .ok (.ireturn, 1) := by decide +kernel
theorem dX1_tell_0 : decode cX1_tell 0 = .ok (.iconst 0, 1) := by decide +kernel
theorem dX1_tell_1 : decode cX1_tell 1 = .ok (.istore_n 1, 1) := by decide +kernel
theorem dX1_tell_2 : decode cX1_tell 2 = .ok (.iload_n 1, 1) := by decide +kernel
theorem dX1_tell_3 : decode cX1_tell 3 = .ok (.aload_n 0, 1) := by decide +kernel
theorem dX1_tell_4 : decode cX1_tell 4 = .ok (.getfield 10, 3) := by decide +kernel
theorem dX1_tell_7 : decode cX1_tell 7 = .ok (.getfield 203, 3) := by decide +kernel
theorem dX1_tell_10 : decode cX1_tell 10 = .ok (.if_icmp .ge 65, 3) := by decide +kernel
theorem dX1_tell_13 : decode cX1_tell 13 = .ok (.iconst 0, 1) := by decide +kernel
theorem dX1_tell_14 : decode cX1_tell 14 = .ok (.istore_n 2, 1) := by decide +kernel
theorem dX1_tell_15 : decode cX1_tell 15 = .ok (.iload_n 2, 1) := by decide +kernel
theorem dX1_tell_16 : decode cX1_tell 16 = .ok (.aload_n 0, 1) := by decide +kernel
theorem dX1_tell_17 : decode cX1_tell 17 = .ok (.getfield 10, 3) := by decide +kernel
theorem dX1_tell_20 : decode cX1_tell 20 = .ok (.getfield 203, 3) := by decide +kernel
theorem dX1_tell_23 : decode cX1_tell 23 = .ok (.if_icmp .ge 46, 3) := by decide +kernel
theorem dX1_tell_26 : decode cX1_tell 26 = .ok (.aload_n 0, 1) := by decide +kernel
theorem dX1_tell_27 : decode cX1_tell 27 = .ok (.getfield 10, 3) := by decide +kernel
theorem dX1_tell_30 : decode cX1_tell 30 = .ok (.iload_n 2, 1) := by decide +kernel
theorem dX1_tell_31 : decode cX1_tell 31 = .ok (.invokevirtual 109, 3) := by decide +kernel
theorem dX1_tell_34 : decode cX1_tell 34 = .ok (.istore_n 3, 1) := by decide +kernel
theorem dX1_tell_35 : decode cX1_tell 35 = .ok (.iload_n 3, 1) := by decide +kernel
theorem dX1_tell_36 : decode cX1_tell 36 = .ok (.bipush 63, 2) := by decide +kernel
theorem dX1_tell_38 : decode cX1_tell 38 = .ok (.if_icmp .eq 25, 3) := by decide +kernel
theorem dX1_tell_41 : decode cX1_tell 41 = .ok (.iload_n 3, 1) := by decide +kernel
theorem dX1_tell_42 : decode cX1_tell 42 = .ok (.aload_n 0, 1) := by decide +kernel
theorem dX1_tell_43 : decode cX1_tell 43 = .ok (.getfield 10, 3) := by decide +kernel
theorem dX1_tell_46 : decode cX1_tell 46 = .ok (.iload_n 1, 1) := by decide +kernel
theorem dX1_tell_47 : decode cX1_tell 47 = .ok (.invokevirtual 109, 3) := by decide +kernel
theorem dX1_tell_50 : decode cX1_tell 50 = .ok (.ior, 1) := by decide +kernel
theorem dX1_tell_51 : decode cX1_tell 51 = .ok (.bipush 63, 2) := by decide +kernel
theorem dX1_tell_53 : decode cX1_tell 53 = .ok (.if_icmp .ne 10, 3) := by decide +kernel
theorem dX1_tell_56 : decode cX1_tell 56 = .ok (.bipush 10, 2) := by decide +kernel
theorem dX1_tell_58 : decode cX1_tell 58 = .ok (.iload_n 1, 1) := by decide +kernel
theorem dX1_tell_59 : decode cX1_tell 59 = .ok (.imul, 1) := by decide +kernel
theorem dX1_tell_60 : decode cX1_tell 60 = .ok (.iload_n 2, 1) := by decide +kernel
theorem dX1_tell_61 : decode cX1_tell 61 = .ok (.iadd, 1) := by decide +kernel
theorem dX1_tell_62 : decode cX1_tell 62 = .ok (.ireturn, 1) := by decide +kernel
theorem dX1_tell_63 : decode cX1_tell 63 = .ok (.iinc 2 1, 3) := by decide +kernel
theorem dX1_tell_66 : decode cX1_tell 66 = .ok (.goto (-51), 3) := by decide +kernel
theorem dX1_tell_69 : decode cX1_tell 69 = .ok (.iinc 1 1, 3) := by decide +kernel
theorem dX1_tell_72 : decode cX1_tell 72 = .ok (.goto (-70), 3) := by decide +kernel
theorem dX1_tell_75 : decode cX1_tell 75 = .ok (.bipush (-9), 2) := by decide +kernel
theorem dX1_tell_77 : decode cX1_tell 77 = .ok (.ireturn, 1) := by decide +kernel
theorem dX1_two_0 : decode cX1_two 0 = .ok (.aload_n 0, 1) := by decide +kernel
theorem dX1_two_1 : decode cX1_two 1 = .ok (.getfield 10, 3) := by decide +kernel
theorem dX1_two_4 : decode cX1_two 4 = .ok (.iload_n 1, 1) := by decide +kernel
theorem dX1_two_5 : decode cX1_two 5 = .ok (.invokevirtual 100, 3) := by decide +kernel
theorem dX1_two_8 : decode cX1_two 8 = .ok (.ifCond .eq 19, 3) := by decide +kernel
theorem dX1_two_11 : decode cX1_two 11 = .ok (.aload_n 0, 1) := by decide +kernel
theorem dX1_two_12 : decode cX1_two 12 = .ok (.getfield 10, 3) := by decide +kernel
theorem dX1_two_15 : decode cX1_two 15 = .ok (.iload_n 2, 1) := by decide +kernel
theorem dX1_two_16 : decode cX1_two 16 = .ok (.invokevirtual 100, 3) := by decide +kernel
theorem dX1_two_19 : decode cX1_two 19 = .ok (.ifCond .eq 8, 3) := by decide +kernel
theorem dX1_two_22 : decode cX1_two 22 = .ok (.iload_n 1, 1) := by decide +kernel
theorem dX1_two_23 : decode cX1_two 23 = .ok (.iload_n 2, 1) := by decide +kernel
theorem dX1_two_24 : decode cX1_two 24 = .ok (.if_icmp .ne 9, 3) := by decide +kernel
theorem dX1_two_27 : decode cX1_two 27 = .ok (.aload_n 0, 1) := by decide +kernel
theorem dX1_two_28 : decode cX1_two 28 = .ok (.iconst (-1), 1) := by decide +kernel
theorem dX1_two_29 : decode cX1_two 29 = .ok (.invokevirtual 52, 3) := by decide +kernel
theorem dX1_two_32 : decode cX1_two 32 = .ok (.ireturn, 1) := by decide +kernel
theorem dX1_two_33 : decode cX1_two 33 = .ok (.iload_n 3, 1) := by decide +kernel
theorem dX1_two_34 : decode cX1_two 34 = .ok (.iconst 0, 1) := by decide +kernel
theorem dX1_two_35 : decode cX1_two 35 = .ok (.bipush 30, 2) := by decide +kernel
theorem dX1_two_37 : decode cX1_two 37 = .ok (.invokestatic 140, 3) := by decide +kernel
theorem dX1_two_40 : decode cX1_two 40 = .ok (.istore 4, 2) := by decide +kernel
theorem dX1_two_42 : decode cX1_two 42 = .ok (.iload 4, 2) := by decide +kernel
theorem dX1_two_44 : decode cX1_two 44 = .ok (.ifCond .eq 10, 3) := by decide +kernel
theorem dX1_two_47 : decode cX1_two 47 = .ok (.aload_n 0, 1) := by decide +kernel
theorem dX1_two_48 : decode cX1_two 48 = .ok (.iload 4, 2) := by decide +kernel
theorem dX1_two_50 : decode cX1_two 50 = .ok (.invokevirtual 52, 3) := by decide +kernel
theorem dX1_two_53 : decode cX1_two 53 = .ok (.ireturn, 1) := by decide +kernel
theorem dX1_two_54 : decode cX1_two 54 = .ok (.iconst 0, 1) := by decide +kernel
theorem dX1_two_55 : decode cX1_two 55 = .ok (.istore 5, 2) := by decide +kernel
theorem dX1_two_57 : decode cX1_two 57 = .ok (.iload 5, 2) := by decide +kernel
theorem dX1_two_59 : decode cX1_two 59 = .ok (.iconst 4, 1) := by decide +kernel
theorem dX1_two_60 : decode cX1_two 60 = .ok (.if_icmp .ge 18, 3) := by decide +kernel
theorem dX1_two_63 : decode cX1_two 63 = .ok (.aload_n 0, 1) := by decide +kernel
theorem dX1_two_64 : decode cX1_two 64 = .ok (.iload_n 1, 1) := by decide +kernel
theorem dX1_two_65 : decode cX1_two 65 = .ok (.iload_n 2, 1) := by decide +kernel
theorem dX1_two_66 : decode cX1_two 66 = .ok (.iload_n 3, 1) := by decide +kernel
theorem dX1_two_67 : decode cX1_two 67 = .ok (.iload 5, 2) := by decide +kernel
theorem dX1_two_69 : decode cX1_two 69 = .ok (.invokevirtual 211, 3) := by decide +kernel
theorem dX1_two_72 : decode cX1_two 72 = .ok (.iinc 5 1, 3) := by decide +kernel
theorem dX1_two_75 : decode cX1_two 75 = .ok (.goto (-18), 3) := by decide +kernel
theorem dX1_two_78 : decode cX1_two 78 = .ok (.iconst 0, 1) := by decide +kernel
theorem dX1_two_79 : decode cX1_two 79 = .ok (.istore 5, 2) := by decide +kernel
theorem dX1_two_81 : decode cX1_two 81 = .ok (.iload 5, 2) := by decide +kernel
theorem dX1_two_83 : decode cX1_two 83 = .ok (.iconst 4, 1) := by decide +kernel
theorem dX1_two_84 : decode cX1_two 84 = .ok (.if_icmp .ge 60, 3) := by decide +kernel
theorem dX1_two_87 : decode cX1_two 87 = .ok (.aload_n 0, 1) := by decide +kernel
theorem dX1_two_88 : decode cX1_two 88 = .ok (.getfield 46, 3) := by decide +kernel
theorem dX1_two_91 : decode cX1_two 91 = .ok (.iload 5, 2) := by decide +kernel
theorem dX1_two_93 : decode cX1_two 93 = .ok (.iaload, 1) := by decide +kernel
theorem dX1_two_94 : decode cX1_two 94 = .ok (.aload_n 0, 1) := by decide +kernel
theorem dX1_two_95 : decode cX1_two 95 = .ok (.getfield 46, 3) := by decide +kernel
theorem dX1_two_98 : decode cX1_two 98 = .ok (.iload 5, 2) := by decide +kernel
theorem dX1_two_100 : decode cX1_two 100 = .ok (.iconst 2, 1) := by decide +kernel
theorem dX1_two_101 : decode cX1_two 101 = .ok (.ixor, 1) := by decide +kernel
theorem dX1_two_102 : decode cX1_two 102 = .ok (.iaload, 1) := by decide +kernel
theorem dX1_two_103 : decode cX1_two 103 = .ok (.if_icmp .lt 35, 3) := by decide +kernel
theorem dX1_two_106 : decode cX1_two 106 = .ok (.aload_n 0, 1) := by decide +kernel
theorem dX1_two_107 : decode cX1_two 107 = .ok (.getfield 49, 3) := by decide +kernel
theorem dX1_two_110 : decode cX1_two 110 = .ok (.iload 5, 2) := by decide +kernel
theorem dX1_two_112 : decode cX1_two 112 = .ok (.iaload, 1) := by decide +kernel
theorem dX1_two_113 : decode cX1_two 113 = .ok (.aload_n 0, 1) := by decide +kernel
theorem dX1_two_114 : decode cX1_two 114 = .ok (.getfield 49, 3) := by decide +kernel
theorem dX1_two_117 : decode cX1_two 117 = .ok (.iload 5, 2) := by decide +kernel
theorem dX1_two_119 : decode cX1_two 119 = .ok (.iconst 1, 1) := by decide +kernel
theorem dX1_two_120 : decode cX1_two 120 = .ok (.ixor, 1) := by decide +kernel
theorem dX1_two_121 : decode cX1_two 121 = .ok (.iaload, 1) := by decide +kernel
theorem dX1_two_122 : decode cX1_two 122 = .ok (.if_icmp .lt 16, 3) := by decide +kernel
theorem dX1_two_125 : decode cX1_two 125 = .ok (.bipush 10, 2) := by decide +kernel
theorem dX1_two_127 : decode cX1_two 127 = .ok (.iload 5, 2) := by decide +kernel
theorem dX1_two_129 : decode cX1_two 129 = .ok (.iconst 1, 1) := by decide +kernel
theorem dX1_two_130 : decode cX1_two 130 = .ok (.ishr, 1) := by decide +kernel
theorem dX1_two_131 : decode cX1_two 131 = .ok (.imul, 1) := by decide +kernel
theorem dX1_two_132 : decode cX1_two 132 = .ok (.iload 5, 2) := by decide +kernel
theorem dX1_two_134 : decode cX1_two 134 = .ok (.iconst 1, 1) := by decide +kernel
theorem dX1_two_135 : decode cX1_two 135 = .ok (.iand, 1) := by decide +kernel
theorem dX1_two_136 : decode cX1_two 136 = .ok (.iadd, 1) := by decide +kernel
theorem dX1_two_137 : decode cX1_two 137 = .ok (.ireturn, 1) := by decide +kernel
theorem dX1_two_138 : decode cX1_two 138 = .ok (.iinc 5 1, 3) := by decide +kernel
theorem dX1_two_141 : decode cX1_two 141 = .ok (.goto (-60), 3) := by decide +kernel
theorem dX1_two_144 : decode cX1_two 144 = .ok (.bipush (-9), 2) := by decide +kernel
theorem dX1_two_146 : decode cX1_two 146 = .ok (.ireturn, 1) := by decide +kernel
theorem dX1_rain_0 : decode cX1_rain 0 = .ok (.aload_n 0, 1) := by decide +kernel
theorem dX1_rain_1 : decode cX1_rain 1 = .ok (.getfield 10, 3) := by decide +kernel
theorem dX1_rain_4 : decode cX1_rain 4 = .ok (.iload_n 1, 1) := by decide +kernel
theorem dX1_rain_5 : decode cX1_rain 5 = .ok (.invokevirtual 100, 3) := by decide +kernel
theorem dX1_rain_8 : decode cX1_rain 8 = .ok (.ifCond .ne 9, 3) := by decide +kernel
theorem dX1_rain_11 : decode cX1_rain 11 = .ok (.aload_n 0, 1) := by decide +kernel
theorem dX1_rain_12 : decode cX1_rain 12 = .ok (.iconst (-1), 1) := by decide +kernel
theorem dX1_rain_13 : decode cX1_rain 13 = .ok (.invokevirtual 215, 3) := by decide +kernel
theorem dX1_rain_16 : decode cX1_rain 16 = .ok (.lreturn, 1) := by decide +kernel
theorem dX1_rain_17 : decode cX1_rain 17 = .ok (.iload_n 2, 1) := by decide +kernel
theorem dX1_rain_18 : decode cX1_rain 18 = .ok (.ifCond .lt 8, 3) := by decide +kernel
theorem dX1_rain_21 : decode cX1_rain 21 = .ok (.iload_n 3, 1) := by decide +kernel
theorem dX1_rain_22 : decode cX1_rain 22 = .ok (.iconst 2, 1) := by decide +kernel
theorem dX1_rain_23 : decode cX1_rain 23 = .ok (.if_icmp .ge 10, 3) := by decide +kernel
theorem dX1_rain_26 : decode cX1_rain 26 = .ok (.aload_n 0, 1) := by decide +kernel
theorem dX1_rain_27 : decode cX1_rain 27 = .ok (.bipush (-4), 2) := by decide +kernel
theorem dX1_rain_29 : decode cX1_rain 29 = .ok (.invokevirtual 215, 3) := by decide +kernel
theorem dX1_rain_32 : decode cX1_rain 32 = .ok (.lreturn, 1) := by decide +kernel
theorem dX1_rain_33 : decode cX1_rain 33 = .ok (.iload_n 2, 1) := by decide +kernel
theorem dX1_rain_34 : decode cX1_rain 34 = .ok (.bipush 7, 2) := by decide +kernel
theorem dX1_rain_36 : decode cX1_rain 36 = .ok (.if_icmp .gt 9, 3) := by decide +kernel
theorem dX1_rain_39 : decode cX1_rain 39 = .ok (.iload_n 3, 1) := by decide +kernel
theorem dX1_rain_40 : decode cX1_rain 40 = .ok (.bipush 20, 2) := by decide +kernel
theorem dX1_rain_42 : decode cX1_rain 42 = .ok (.if_icmp .le 10, 3) := by decide +kernel
theorem dX1_rain_45 : decode cX1_rain 45 = .ok (.aload_n 0, 1) := by decide +kernel
theorem dX1_rain_46 : decode cX1_rain 46 = .ok (.bipush (-6), 2) := by decide +kernel
theorem dX1_rain_48 : decode cX1_rain 48 = .ok (.invokevirtual 215, 3) := by decide +kernel
theorem dX1_rain_51 : decode cX1_rain 51 = .ok (.lreturn, 1) := by decide +kernel
theorem dX1_rain_52 : decode cX1_rain 52 = .ok (.iload 4, 2) := by decide +kernel
theorem dX1_rain_54 : decode cX1_rain 54 = .ok (.invokestatic 156, 3) := by decide +kernel
theorem dX1_rain_57 : decode cX1_rain 57 = .ok (.ifCond .ne 10, 3) := by decide +kernel
theorem dX1_rain_60 : decode cX1_rain 60 = .ok (.aload_n 0, 1) := by decide +kernel
theorem dX1_rain_61 : decode cX1_rain 61 = .ok (.bipush (-2), 2) := by decide +kernel
theorem dX1_rain_63 : decode cX1_rain 63 = .ok (.invokevirtual 215, 3) := by decide +kernel
theorem dX1_rain_66 : decode cX1_rain 66 = .ok (.lreturn, 1) := by decide +kernel
theorem dX1_rain_67 : decode cX1_rain 67 = .ok (.lconst 0, 1) := by decide +kernel
theorem dX1_rain_68 : decode cX1_rain 68 = .ok (.lstore 5, 2) := by decide +kernel
theorem dX1_rain_70 : decode cX1_rain 70 = .ok (.iconst 0, 1) := by decide +kernel
theorem dX1_rain_71 : decode cX1_rain 71 = .ok (.istore 7, 2) := by decide +kernel
theorem dX1_rain_73 : decode cX1_rain 73 = .ok (.iload 7, 2) := by decide +kernel
theorem dX1_rain_75 : decode cX1_rain 75 = .ok (.iconst 1, 1) := by decide +kernel
theorem dX1_rain_76 : decode cX1_rain 76 = .ok (.iload_n 2, 1) := by decide +kernel
theorem dX1_rain_77 : decode cX1_rain 77 = .ok (.ishl, 1) := by decide +kernel
theorem dX1_rain_78 : decode cX1_rain 78 = .ok (.if_icmp .ge 36, 3) := by decide +kernel
theorem dX1_rain_81 : decode cX1_rain 81 = .ok (.aload_n 0, 1) := by decide +kernel
theorem dX1_rain_82 : decode cX1_rain 82 = .ok (.iload_n 1, 1) := by decide +kernel
theorem dX1_rain_83 : decode cX1_rain 83 = .ok (.iload_n 2, 1) := by decide +kernel
theorem dX1_rain_84 : decode cX1_rain 84 = .ok (.iload 7, 2) := by decide +kernel
theorem dX1_rain_86 : decode cX1_rain 86 = .ok (.invokevirtual 219, 3) := by decide +kernel
theorem dX1_rain_89 : decode cX1_rain 89 = .ok (.ifCond .eq 19, 3) := by decide +kernel
theorem dX1_rain_92 : decode cX1_rain 92 = .ok (.lload 5, 2) := by decide +kernel
theorem dX1_rain_94 : decode cX1_rain 94 = .ok (.iload_n 3, 1) := by decide +kernel
theorem dX1_rain_95 : decode cX1_rain 95 = .ok (.iconst 1, 1) := by decide +kernel
theorem dX1_rain_96 : decode cX1_rain 96 = .ok (.isub, 1) := by decide +kernel
theorem dX1_rain_97 : decode cX1_rain 97 = .ok (.iload 7, 2) := by decide +kernel
theorem dX1_rain_99 : decode cX1_rain 99 = .ok (.invokestatic 135, 3) := by decide +kernel
theorem dX1_rain_102 : decode cX1_rain 102 = .ok (.invokestatic 223, 3) := by decide +kernel
theorem dX1_rain_105 : decode cX1_rain 105 = .ok (.ladd, 1) := by decide +kernel
theorem dX1_rain_106 : decode cX1_rain 106 = .ok (.lstore 5, 2) := by decide +kernel
theorem dX1_rain_108 : decode cX1_rain 108 = .ok (.iinc 7 1, 3) := by decide +kernel
theorem dX1_rain_111 : decode cX1_rain 111 = .ok (.goto (-38), 3) := by decide +kernel
theorem dX1_rain_114 : decode cX1_rain 114 = .ok (.lload 5, 2) := by decide +kernel
theorem dX1_rain_116 : decode cX1_rain 116 = .ok (.iload_n 3, 1) := by decide +kernel
theorem dX1_rain_117 : decode cX1_rain 117 = .ok (.iload_n 2, 1) := by decide +kernel
theorem dX1_rain_118 : decode cX1_rain 118 = .ok (.invokestatic 223, 3) := by decide +kernel
theorem dX1_rain_121 : decode cX1_rain 121 = .ok (.iload 4, 2) := by decide +kernel
theorem dX1_rain_123 : decode cX1_rain 123 = .ok (.invokestatic 227, 3) := by decide +kernel
theorem dX1_rain_126 : decode cX1_rain 126 = .ok (.lreturn, 1) := by decide +kernel
theorem dX1_mean_0 : decode cX1_mean 0 = .ok (.iload_n 1, 1) := by decide +kernel
theorem dX1_mean_1 : decode cX1_mean 1 = .ok (.invokestatic 156, 3) := by decide +kernel
theorem dX1_mean_4 : decode cX1_mean 4 = .ok (.ifCond .ne 10, 3) := by decide +kernel
theorem dX1_mean_7 : decode cX1_mean 7 = .ok (.aload_n 0, 1) := by decide +kernel
theorem dX1_mean_8 : decode cX1_mean 8 = .ok (.bipush (-2), 2) := by decide +kernel
theorem dX1_mean_10 : decode cX1_mean 10 = .ok (.invokevirtual 215, 3) := by decide +kernel
theorem dX1_mean_13 : decode cX1_mean 13 = .ok (.lreturn, 1) := by decide +kernel
theorem dX1_mean_14 : decode cX1_mean 14 = .ok (.lconst 0, 1) := by decide +kernel
theorem dX1_mean_15 : decode cX1_mean 15 = .ok (.lstore_n 2, 1) := by decide +kernel
theorem dX1_mean_16 : decode cX1_mean 16 = .ok (.iconst 0, 1) := by decide +kernel
theorem dX1_mean_17 : decode cX1_mean 17 = .ok (.istore 4, 2) := by decide +kernel
theorem dX1_mean_19 : decode cX1_mean 19 = .ok (.iload 4, 2) := by decide +kernel
theorem dX1_mean_21 : decode cX1_mean 21 = .ok (.aload_n 0, 1) := by decide +kernel
theorem dX1_mean_22 : decode cX1_mean 22 = .ok (.getfield 10, 3) := by decide +kernel
theorem dX1_mean_25 : decode cX1_mean 25 = .ok (.getfield 129, 3) := by decide +kernel
theorem dX1_mean_28 : decode cX1_mean 28 = .ok (.if_icmp .ge 22, 3) := by decide +kernel
theorem dX1_mean_31 : decode cX1_mean 31 = .ok (.lload_n 2, 1) := by decide +kernel
theorem dX1_mean_32 : decode cX1_mean 32 = .ok (.aload_n 0, 1) := by decide +kernel
theorem dX1_mean_33 : decode cX1_mean 33 = .ok (.getfield 10, 3) := by decide +kernel
theorem dX1_mean_36 : decode cX1_mean 36 = .ok (.iload 4, 2) := by decide +kernel
theorem dX1_mean_38 : decode cX1_mean 38 = .ok (.invokevirtual 85, 3) := by decide +kernel
theorem dX1_mean_41 : decode cX1_mean 41 = .ok (.i2l, 1) := by decide +kernel
theorem dX1_mean_42 : decode cX1_mean 42 = .ok (.ladd, 1) := by decide +kernel
theorem dX1_mean_43 : decode cX1_mean 43 = .ok (.lstore_n 2, 1) := by decide +kernel
theorem dX1_mean_44 : decode cX1_mean 44 = .ok (.iinc 4 1, 3) := by decide +kernel
theorem dX1_mean_47 : decode cX1_mean 47 = .ok (.goto (-28), 3) := by decide +kernel
theorem dX1_mean_50 : decode cX1_mean 50 = .ok (.lload_n 2, 1) := by decide +kernel
theorem dX1_mean_51 : decode cX1_mean 51 = .ok (.aload_n 0, 1) := by decide +kernel
theorem dX1_mean_52 : decode cX1_mean 52 = .ok (.getfield 10, 3) := by decide +kernel
theorem dX1_mean_55 : decode cX1_mean 55 = .ok (.getfield 129, 3) := by decide +kernel
theorem dX1_mean_58 : decode cX1_mean 58 = .ok (.iconst 1, 1) := by decide +kernel
theorem dX1_mean_59 : decode cX1_mean 59 = .ok (.invokestatic 231, 3) := by decide +kernel
theorem dX1_mean_62 : decode cX1_mean 62 = .ok (.i2l, 1) := by decide +kernel
theorem dX1_mean_63 : decode cX1_mean 63 = .ok (.iload_n 1, 1) := by decide +kernel
theorem dX1_mean_64 : decode cX1_mean 64 = .ok (.invokestatic 227, 3) := by decide +kernel
theorem dX1_mean_67 : decode cX1_mean 67 = .ok (.lreturn, 1) := by decide +kernel
theorem dX1_whatSaid_0 : decode cX1_whatSaid 0 = .ok (.aload_n 0, 1) := by decide +kernel
theorem dX1_whatSaid_1 : decode cX1_whatSaid 1 = .ok (.getfield 10, 3) := by decide +kernel
theorem dX1_whatSaid_4 : decode cX1_whatSaid 4 = .ok (.iload_n 1, 1) := by decide +kernel
theorem dX1_whatSaid_5 : decode cX1_whatSaid 5 = .ok (.invokevirtual 70, 3) := by decide +kernel
theorem dX1_whatSaid_8 : decode cX1_whatSaid 8 = .ok (.ifCond .ne 9, 3) := by decide +kernel
theorem dX1_whatSaid_11 : decode cX1_whatSaid 11 = .ok (.aload_n 0, 1) := by decide +kernel
theorem dX1_whatSaid_12 : decode cX1_whatSaid 12 = .ok (.iconst (-1), 1) := by decide +kernel
theorem dX1_whatSaid_13 : decode cX1_whatSaid 13 = .ok (.invokevirtual 52, 3) := by decide +kernel
