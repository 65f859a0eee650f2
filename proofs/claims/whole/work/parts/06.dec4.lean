theorem dX2_tell_19 : decode cX2_tell 19 = .ok (.iaload, 1) := by decide +kernel
theorem dX2_tell_20 : decode cX2_tell 20 = .ok (.if_icmp .ge 152, 3) := by decide +kernel
theorem dX2_tell_23 : decode cX2_tell 23 = .ok (.iconst 0, 1) := by decide +kernel
theorem dX2_tell_24 : decode cX2_tell 24 = .ok (.istore 4, 2) := by decide +kernel
theorem dX2_tell_26 : decode cX2_tell 26 = .ok (.iload 4, 2) := by decide +kernel
theorem dX2_tell_28 : decode cX2_tell 28 = .ok (.aload_n 0, 1) := by decide +kernel
theorem dX2_tell_29 : decode cX2_tell 29 = .ok (.getfield 9, 3) := by decide +kernel
theorem dX2_tell_32 : decode cX2_tell 32 = .ok (.iconst 1, 1) := by decide +kernel
theorem dX2_tell_33 : decode cX2_tell 33 = .ok (.iaload, 1) := by decide +kernel
theorem dX2_tell_34 : decode cX2_tell 34 = .ok (.if_icmp .ge 132, 3) := by decide +kernel
theorem dX2_tell_37 : decode cX2_tell 37 = .ok (.iload_n 3, 1) := by decide +kernel
theorem dX2_tell_38 : decode cX2_tell 38 = .ok (.iload 4, 2) := by decide +kernel
theorem dX2_tell_40 : decode cX2_tell 40 = .ok (.if_icmp .ne 6, 3) := by decide +kernel
theorem dX2_tell_43 : decode cX2_tell 43 = .ok (.goto 117, 3) := by decide +kernel
theorem dX2_tell_46 : decode cX2_tell 46 = .ok (.aload_n 0, 1) := by decide +kernel
theorem dX2_tell_47 : decode cX2_tell 47 = .ok (.getfield 9, 3) := by decide +kernel
theorem dX2_tell_50 : decode cX2_tell 50 = .ok (.aload_n 0, 1) := by decide +kernel
theorem dX2_tell_51 : decode cX2_tell 51 = .ok (.getfield 13, 3) := by decide +kernel
theorem dX2_tell_54 : decode cX2_tell 54 = .ok (.invokestatic 134, 3) := by decide +kernel
theorem dX2_tell_57 : decode cX2_tell 57 = .ok (.iconst 0, 1) := by decide +kernel
theorem dX2_tell_58 : decode cX2_tell 58 = .ok (.istore 5, 2) := by decide +kernel
theorem dX2_tell_60 : decode cX2_tell 60 = .ok (.iload 5, 2) := by decide +kernel
theorem dX2_tell_62 : decode cX2_tell 62 = .ok (.bipush 6, 2) := by decide +kernel
theorem dX2_tell_64 : decode cX2_tell 64 = .ok (.if_icmp .ge 66, 3) := by decide +kernel
theorem dX2_tell_67 : decode cX2_tell 67 = .ok (.aload_n 0, 1) := by decide +kernel
theorem dX2_tell_68 : decode cX2_tell 68 = .ok (.getfield 13, 3) := by decide +kernel
theorem dX2_tell_71 : decode cX2_tell 71 = .ok (.iload_n 3, 1) := by decide +kernel
theorem dX2_tell_72 : decode cX2_tell 72 = .ok (.iconst 2, 1) := by decide +kernel
theorem dX2_tell_73 : decode cX2_tell 73 = .ok (.iload 5, 2) := by decide +kernel
theorem dX2_tell_75 : decode cX2_tell 75 = .ok (.iadd, 1) := by decide +kernel
theorem dX2_tell_76 : decode cX2_tell 76 = .ok (.invokestatic 48, 3) := by decide +kernel
theorem dX2_tell_79 : decode cX2_tell 79 = .ok (.iaload, 1) := by decide +kernel
theorem dX2_tell_80 : decode cX2_tell 80 = .ok (.aload_n 0, 1) := by decide +kernel
theorem dX2_tell_81 : decode cX2_tell 81 = .ok (.getfield 13, 3) := by decide +kernel
theorem dX2_tell_84 : decode cX2_tell 84 = .ok (.iload 4, 2) := by decide +kernel
theorem dX2_tell_86 : decode cX2_tell 86 = .ok (.iconst 2, 1) := by decide +kernel
theorem dX2_tell_87 : decode cX2_tell 87 = .ok (.iload 5, 2) := by decide +kernel
theorem dX2_tell_89 : decode cX2_tell 89 = .ok (.iadd, 1) := by decide +kernel
theorem dX2_tell_90 : decode cX2_tell 90 = .ok (.invokestatic 48, 3) := by decide +kernel
theorem dX2_tell_93 : decode cX2_tell 93 = .ok (.iaload, 1) := by decide +kernel
theorem dX2_tell_94 : decode cX2_tell 94 = .ok (.if_icmp .le 30, 3) := by decide +kernel
theorem dX2_tell_97 : decode cX2_tell 97 = .ok (.aload_n 0, 1) := by decide +kernel
theorem dX2_tell_98 : decode cX2_tell 98 = .ok (.getfield 13, 3) := by decide +kernel
theorem dX2_tell_101 : decode cX2_tell 101 = .ok (.iload 4, 2) := by decide +kernel
theorem dX2_tell_103 : decode cX2_tell 103 = .ok (.iconst 2, 1) := by decide +kernel
theorem dX2_tell_104 : decode cX2_tell 104 = .ok (.iload 5, 2) := by decide +kernel
theorem dX2_tell_106 : decode cX2_tell 106 = .ok (.iadd, 1) := by decide +kernel
theorem dX2_tell_107 : decode cX2_tell 107 = .ok (.invokestatic 48, 3) := by decide +kernel
theorem dX2_tell_110 : decode cX2_tell 110 = .ok (.aload_n 0, 1) := by decide +kernel
theorem dX2_tell_111 : decode cX2_tell 111 = .ok (.getfield 13, 3) := by decide +kernel
theorem dX2_tell_114 : decode cX2_tell 114 = .ok (.iload_n 3, 1) := by decide +kernel
theorem dX2_tell_115 : decode cX2_tell 115 = .ok (.iconst 2, 1) := by decide +kernel
theorem dX2_tell_116 : decode cX2_tell 116 = .ok (.iload 5, 2) := by decide +kernel
theorem dX2_tell_118 : decode cX2_tell 118 = .ok (.iadd, 1) := by decide +kernel
theorem dX2_tell_119 : decode cX2_tell 119 = .ok (.invokestatic 48, 3) := by decide +kernel
theorem dX2_tell_122 : decode cX2_tell 122 = .ok (.iaload, 1) := by decide +kernel
theorem dX2_tell_123 : decode cX2_tell 123 = .ok (.iastore, 1) := by decide +kernel
theorem dX2_tell_124 : decode cX2_tell 124 = .ok (.iinc 5 1, 3) := by decide +kernel
theorem dX2_tell_127 : decode cX2_tell 127 = .ok (.goto (-67), 3) := by decide +kernel
theorem dX2_tell_130 : decode cX2_tell 130 = .ok (.aload_n 0, 1) := by decide +kernel
theorem dX2_tell_131 : decode cX2_tell 131 = .ok (.getfield 13, 3) := by decide +kernel
theorem dX2_tell_134 : decode cX2_tell 134 = .ok (.invokestatic 180, 3) := by decide +kernel
theorem dX2_tell_137 : decode cX2_tell 137 = .ok (.iload_n 1, 1) := by decide +kernel
theorem dX2_tell_138 : decode cX2_tell 138 = .ok (.if_icmp .gt 6, 3) := by decide +kernel
theorem dX2_tell_141 : decode cX2_tell 141 = .ok (.goto 19, 3) := by decide +kernel
theorem dX2_tell_144 : decode cX2_tell 144 = .ok (.bipush 10, 2) := by decide +kernel
theorem dX2_tell_146 : decode cX2_tell 146 = .ok (.iload_n 3, 1) := by decide +kernel
theorem dX2_tell_147 : decode cX2_tell 147 = .ok (.imul, 1) := by decide +kernel
theorem dX2_tell_148 : decode cX2_tell 148 = .ok (.iload 4, 2) := by decide +kernel
theorem dX2_tell_150 : decode cX2_tell 150 = .ok (.iadd, 1) := by decide +kernel
theorem dX2_tell_151 : decode cX2_tell 151 = .ok (.istore_n 2, 1) := by decide +kernel
theorem dX2_tell_152 : decode cX2_tell 152 = .ok (.aload_n 0, 1) := by decide +kernel
theorem dX2_tell_153 : decode cX2_tell 153 = .ok (.getfield 13, 3) := by decide +kernel
theorem dX2_tell_156 : decode cX2_tell 156 = .ok (.invokestatic 180, 3) := by decide +kernel
theorem dX2_tell_159 : decode cX2_tell 159 = .ok (.istore_n 1, 1) := by decide +kernel
theorem dX2_tell_160 : decode cX2_tell 160 = .ok (.iinc 4 1, 3) := by decide +kernel
theorem dX2_tell_163 : decode cX2_tell 163 = .ok (.goto (-137), 3) := by decide +kernel
theorem dX2_tell_166 : decode cX2_tell 166 = .ok (.iinc 3 1, 3) := by decide +kernel
theorem dX2_tell_169 : decode cX2_tell 169 = .ok (.goto (-156), 3) := by decide +kernel
theorem dX2_tell_172 : decode cX2_tell 172 = .ok (.iload_n 2, 1) := by decide +kernel
theorem dX2_tell_173 : decode cX2_tell 173 = .ok (.ireturn, 1) := by decide +kernel
theorem dX2_hasBy_0 : decode cX2_hasBy 0 = .ok (.aload_n 0, 1) := by decide +kernel
theorem dX2_hasBy_1 : decode cX2_hasBy 1 = .ok (.getfield 9, 3) := by decide +kernel
theorem dX2_hasBy_4 : decode cX2_hasBy 4 = .ok (.aload_n 0, 1) := by decide +kernel
theorem dX2_hasBy_5 : decode cX2_hasBy 5 = .ok (.getfield 13, 3) := by decide +kernel
theorem dX2_hasBy_8 : decode cX2_hasBy 8 = .ok (.invokestatic 134, 3) := by decide +kernel
theorem dX2_hasBy_11 : decode cX2_hasBy 11 = .ok (.aload_n 0, 1) := by decide +kernel
theorem dX2_hasBy_12 : decode cX2_hasBy 12 = .ok (.getfield 13, 3) := by decide +kernel
theorem dX2_hasBy_15 : decode cX2_hasBy 15 = .ok (.iload 5, 2) := by decide +kernel
theorem dX2_hasBy_17 : decode cX2_hasBy 17 = .ok (.iload_n 3, 1) := by decide +kernel
theorem dX2_hasBy_18 : decode cX2_hasBy 18 = .ok (.invokestatic 128, 3) := by decide +kernel
theorem dX2_hasBy_21 : decode cX2_hasBy 21 = .ok (.aload_n 0, 1) := by decide +kernel
theorem dX2_hasBy_22 : decode cX2_hasBy 22 = .ok (.getfield 13, 3) := by decide +kernel
theorem dX2_hasBy_25 : decode cX2_hasBy 25 = .ok (.iload_n 1, 1) := by decide +kernel
theorem dX2_hasBy_26 : decode cX2_hasBy 26 = .ok (.invokestatic 91, 3) := by decide +kernel
theorem dX2_hasBy_29 : decode cX2_hasBy 29 = .ok (.bipush 63, 2) := by decide +kernel
theorem dX2_hasBy_31 : decode cX2_hasBy 31 = .ok (.if_icmp .ne 20, 3) := by decide +kernel
theorem dX2_hasBy_34 : decode cX2_hasBy 34 = .ok (.aload_n 0, 1) := by decide +kernel
theorem dX2_hasBy_35 : decode cX2_hasBy 35 = .ok (.getfield 13, 3) := by decide +kernel
theorem dX2_hasBy_38 : decode cX2_hasBy 38 = .ok (.iload_n 2, 1) := by decide +kernel
theorem dX2_hasBy_39 : decode cX2_hasBy 39 = .ok (.invokestatic 91, 3) := by decide +kernel
theorem dX2_hasBy_42 : decode cX2_hasBy 42 = .ok (.bipush 63, 2) := by decide +kernel
theorem dX2_hasBy_44 : decode cX2_hasBy 44 = .ok (.if_icmp .eq 7, 3) := by decide +kernel
theorem dX2_hasBy_47 : decode cX2_hasBy 47 = .ok (.iconst 3, 1) := by decide +kernel
theorem dX2_hasBy_48 : decode cX2_hasBy 48 = .ok (.goto 4, 3) := by decide +kernel
theorem dX2_hasBy_51 : decode cX2_hasBy 51 = .ok (.iconst 0, 1) := by decide +kernel
theorem dX2_hasBy_52 : decode cX2_hasBy 52 = .ok (.istore 6, 2) := by decide +kernel
theorem dX2_hasBy_54 : decode cX2_hasBy 54 = .ok (.aload_n 0, 1) := by decide +kernel
theorem dX2_hasBy_55 : decode cX2_hasBy 55 = .ok (.getfield 13, 3) := by decide +kernel
theorem dX2_hasBy_58 : decode cX2_hasBy 58 = .ok (.iload_n 1, 1) := by decide +kernel
theorem dX2_hasBy_59 : decode cX2_hasBy 59 = .ok (.invokestatic 91, 3) := by decide +kernel
theorem dX2_hasBy_62 : decode cX2_hasBy 62 = .ok (.invokestatic 94, 3) := by decide +kernel
theorem dX2_hasBy_65 : decode cX2_hasBy 65 = .ok (.iload 4, 2) := by decide +kernel
theorem dX2_hasBy_67 : decode cX2_hasBy 67 = .ok (.isub, 1) := by decide +kernel
theorem dX2_hasBy_68 : decode cX2_hasBy 68 = .ok (.iload 6, 2) := by decide +kernel
theorem dX2_hasBy_70 : decode cX2_hasBy 70 = .ok (.iadd, 1) := by decide +kernel
theorem dX2_hasBy_71 : decode cX2_hasBy 71 = .ok (.ireturn, 1) := by decide +kernel
theorem dX2_lookingBy_0 : decode cX2_lookingBy 0 = .ok (.iconst 1, 1) := by decide +kernel
theorem dX2_lookingBy_1 : decode cX2_lookingBy 1 = .ok (.iload_n 1, 1) := by decide +kernel
theorem dX2_lookingBy_2 : decode cX2_lookingBy 2 = .ok (.isub, 1) := by decide +kernel
theorem dX2_lookingBy_3 : decode cX2_lookingBy 3 = .ok (.iload_n 0, 1) := by decide +kernel
theorem dX2_lookingBy_4 : decode cX2_lookingBy 4 = .ok (.ishl, 1) := by decide +kernel
theorem dX2_lookingBy_5 : decode cX2_lookingBy 5 = .ok (.iconst 1, 1) := by decide +kernel
theorem dX2_lookingBy_6 : decode cX2_lookingBy 6 = .ok (.iload_n 3, 1) := by decide +kernel
theorem dX2_lookingBy_7 : decode cX2_lookingBy 7 = .ok (.isub, 1) := by decide +kernel
theorem dX2_lookingBy_8 : decode cX2_lookingBy 8 = .ok (.iload_n 2, 1) := by decide +kernel
theorem dX2_lookingBy_9 : decode cX2_lookingBy 9 = .ok (.ishl, 1) := by decide +kernel
theorem dX2_lookingBy_10 : decode cX2_lookingBy 10 = .ok (.ior, 1) := by decide +kernel
theorem dX2_lookingBy_11 : decode cX2_lookingBy 11 = .ok (.iconst (-1), 1) := by decide +kernel
theorem dX2_lookingBy_12 : decode cX2_lookingBy 12 = .ok (.ixor, 1) := by decide +kernel
theorem dX2_lookingBy_13 : decode cX2_lookingBy 13 = .ok (.ireturn, 1) := by decide +kernel
theorem dX2_two_0 : decode cX2_two 0 = .ok (.aload_n 0, 1) := by decide +kernel
theorem dX2_two_1 : decode cX2_two 1 = .ok (.iload_n 1, 1) := by decide +kernel
theorem dX2_two_2 : decode cX2_two 2 = .ok (.invokevirtual 147, 3) := by decide +kernel
theorem dX2_two_5 : decode cX2_two 5 = .ok (.ifCond .eq 26, 3) := by decide +kernel
theorem dX2_two_8 : decode cX2_two 8 = .ok (.aload_n 0, 1) := by decide +kernel
theorem dX2_two_9 : decode cX2_two 9 = .ok (.iload_n 2, 1) := by decide +kernel
theorem dX2_two_10 : decode cX2_two 10 = .ok (.invokevirtual 147, 3) := by decide +kernel
theorem dX2_two_13 : decode cX2_two 13 = .ok (.ifCond .eq 18, 3) := by decide +kernel
theorem dX2_two_16 : decode cX2_two 16 = .ok (.iload_n 1, 1) := by decide +kernel
theorem dX2_two_17 : decode cX2_two 17 = .ok (.iload_n 2, 1) := by decide +kernel
theorem dX2_two_18 : decode cX2_two 18 = .ok (.if_icmp .eq 13, 3) := by decide +kernel
theorem dX2_two_21 : decode cX2_two 21 = .ok (.iload_n 3, 1) := by decide +kernel
theorem dX2_two_22 : decode cX2_two 22 = .ok (.iconst 0, 1) := by decide +kernel
theorem dX2_two_23 : decode cX2_two 23 = .ok (.bipush 30, 2) := by decide +kernel
theorem dX2_two_25 : decode cX2_two 25 = .ok (.invokestatic 153, 3) := by decide +kernel
theorem dX2_two_28 : decode cX2_two 28 = .ok (.goto 4, 3) := by decide +kernel
theorem dX2_two_31 : decode cX2_two 31 = .ok (.iconst (-1), 1) := by decide +kernel
theorem dX2_two_32 : decode cX2_two 32 = .ok (.istore 4, 2) := by decide +kernel
theorem dX2_two_34 : decode cX2_two 34 = .ok (.iload 4, 2) := by decide +kernel
theorem dX2_two_36 : decode cX2_two 36 = .ok (.ifCond .eq 10, 3) := by decide +kernel
theorem dX2_two_39 : decode cX2_two 39 = .ok (.aload_n 0, 1) := by decide +kernel
theorem dX2_two_40 : decode cX2_two 40 = .ok (.iload 4, 2) := by decide +kernel
theorem dX2_two_42 : decode cX2_two 42 = .ok (.invokevirtual 36, 3) := by decide +kernel
theorem dX2_two_45 : decode cX2_two 45 = .ok (.ireturn, 1) := by decide +kernel
theorem dX2_two_46 : decode cX2_two 46 = .ok (.iconst 0, 1) := by decide +kernel
theorem dX2_two_47 : decode cX2_two 47 = .ok (.istore 5, 2) := by decide +kernel
theorem dX2_two_49 : decode cX2_two 49 = .ok (.iload 5, 2) := by decide +kernel
theorem dX2_two_51 : decode cX2_two 51 = .ok (.iconst 4, 1) := by decide +kernel
theorem dX2_two_52 : decode cX2_two 52 = .ok (.if_icmp .ge 113, 3) := by decide +kernel
theorem dX2_two_55 : decode cX2_two 55 = .ok (.iload 5, 2) := by decide +kernel
theorem dX2_two_57 : decode cX2_two 57 = .ok (.iconst 2, 1) := by decide +kernel
theorem dX2_two_58 : decode cX2_two 58 = .ok (.idiv, 1) := by decide +kernel
theorem dX2_two_59 : decode cX2_two 59 = .ok (.istore 6, 2) := by decide +kernel
theorem dX2_two_61 : decode cX2_two 61 = .ok (.iload 5, 2) := by decide +kernel
theorem dX2_two_63 : decode cX2_two 63 = .ok (.iconst 2, 1) := by decide +kernel
theorem dX2_two_64 : decode cX2_two 64 = .ok (.irem, 1) := by decide +kernel
theorem dX2_two_65 : decode cX2_two 65 = .ok (.istore 7, 2) := by decide +kernel
theorem dX2_two_67 : decode cX2_two 67 = .ok (.iload_n 1, 1) := by decide +kernel
theorem dX2_two_68 : decode cX2_two 68 = .ok (.iload 6, 2) := by decide +kernel
theorem dX2_two_70 : decode cX2_two 70 = .ok (.iload_n 2, 1) := by decide +kernel
theorem dX2_two_71 : decode cX2_two 71 = .ok (.iload 7, 2) := by decide +kernel
theorem dX2_two_73 : decode cX2_two 73 = .ok (.invokestatic 196, 3) := by decide +kernel
theorem dX2_two_76 : decode cX2_two 76 = .ok (.istore 8, 2) := by decide +kernel
theorem dX2_two_78 : decode cX2_two 78 = .ok (.aload_n 0, 1) := by decide +kernel
theorem dX2_two_79 : decode cX2_two 79 = .ok (.iload_n 1, 1) := by decide +kernel
theorem dX2_two_80 : decode cX2_two 80 = .ok (.iload_n 2, 1) := by decide +kernel
theorem dX2_two_81 : decode cX2_two 81 = .ok (.iload_n 1, 1) := by decide +kernel
theorem dX2_two_82 : decode cX2_two 82 = .ok (.iconst 1, 1) := by decide +kernel
theorem dX2_two_83 : decode cX2_two 83 = .ok (.iload 6, 2) := by decide +kernel
theorem dX2_two_85 : decode cX2_two 85 = .ok (.isub, 1) := by decide +kernel
theorem dX2_two_86 : decode cX2_two 86 = .ok (.iload_n 2, 1) := by decide +kernel
theorem dX2_two_87 : decode cX2_two 87 = .ok (.iload 7, 2) := by decide +kernel
theorem dX2_two_89 : decode cX2_two 89 = .ok (.invokestatic 196, 3) := by decide +kernel
theorem dX2_two_92 : decode cX2_two 92 = .ok (.iconst 1, 1) := by decide +kernel
theorem dX2_two_93 : decode cX2_two 93 = .ok (.iload 6, 2) := by decide +kernel
theorem dX2_two_95 : decode cX2_two 95 = .ok (.isub, 1) := by decide +kernel
theorem dX2_two_96 : decode cX2_two 96 = .ok (.iload_n 3, 1) := by decide +kernel
theorem dX2_two_97 : decode cX2_two 97 = .ok (.invokevirtual 200, 3) := by decide +kernel
theorem dX2_two_100 : decode cX2_two 100 = .ok (.aload_n 0, 1) := by decide +kernel
theorem dX2_two_101 : decode cX2_two 101 = .ok (.iload_n 1, 1) := by decide +kernel
theorem dX2_two_102 : decode cX2_two 102 = .ok (.iload_n 2, 1) := by decide +kernel
theorem dX2_two_103 : decode cX2_two 103 = .ok (.iload 8, 2) := by decide +kernel
theorem dX2_two_105 : decode cX2_two 105 = .ok (.iload 6, 2) := by decide +kernel
theorem dX2_two_107 : decode cX2_two 107 = .ok (.iload_n 3, 1) := by decide +kernel
theorem dX2_two_108 : decode cX2_two 108 = .ok (.invokevirtual 200, 3) := by decide +kernel
theorem dX2_two_111 : decode cX2_two 111 = .ok (.if_icmp .gt 48, 3) := by decide +kernel
theorem dX2_two_114 : decode cX2_two 114 = .ok (.aload_n 0, 1) := by decide +kernel
theorem dX2_two_115 : decode cX2_two 115 = .ok (.iload_n 2, 1) := by decide +kernel
theorem dX2_two_116 : decode cX2_two 116 = .ok (.iload_n 1, 1) := by decide +kernel
theorem dX2_two_117 : decode cX2_two 117 = .ok (.iload_n 1, 1) := by decide +kernel
theorem dX2_two_118 : decode cX2_two 118 = .ok (.iload 6, 2) := by decide +kernel
theorem dX2_two_120 : decode cX2_two 120 = .ok (.iload_n 2, 1) := by decide +kernel
theorem dX2_two_121 : decode cX2_two 121 = .ok (.iconst 1, 1) := by decide +kernel
theorem dX2_two_122 : decode cX2_two 122 = .ok (.iload 7, 2) := by decide +kernel
theorem dX2_two_124 : decode cX2_two 124 = .ok (.isub, 1) := by decide +kernel
theorem dX2_two_125 : decode cX2_two 125 = .ok (.invokestatic 196, 3) := by decide +kernel
theorem dX2_two_128 : decode cX2_two 128 = .ok (.iconst 1, 1) := by decide +kernel
theorem dX2_two_129 : decode cX2_two 129 = .ok (.iload 7, 2) := by decide +kernel
theorem dX2_two_131 : decode cX2_two 131 = .ok (.isub, 1) := by decide +kernel
theorem dX2_two_132 : decode cX2_two 132 = .ok (.iload_n 3, 1) := by decide +kernel
theorem dX2_two_133 : decode cX2_two 133 = .ok (.invokevirtual 200, 3) := by decide +kernel
theorem dX2_two_136 : decode cX2_two 136 = .ok (.aload_n 0, 1) := by decide +kernel
theorem dX2_two_137 : decode cX2_two 137 = .ok (.iload_n 2, 1) := by decide +kernel
theorem dX2_two_138 : decode cX2_two 138 = .ok (.iload_n 1, 1) := by decide +kernel
theorem dX2_two_139 : decode cX2_two 139 = .ok (.iload 8, 2) := by decide +kernel
theorem dX2_two_141 : decode cX2_two 141 = .ok (.iload 7, 2) := by decide +kernel
theorem dX2_two_143 : decode cX2_two 143 = .ok (.iload_n 3, 1) := by decide +kernel
theorem dX2_two_144 : decode cX2_two 144 = .ok (.invokevirtual 200, 3) := by decide +kernel
theorem dX2_two_147 : decode cX2_two 147 = .ok (.if_icmp .gt 12, 3) := by decide +kernel
theorem dX2_two_150 : decode cX2_two 150 = .ok (.bipush 10, 2) := by decide +kernel
theorem dX2_two_152 : decode cX2_two 152 = .ok (.iload 6, 2) := by decide +kernel
theorem dX2_two_154 : decode cX2_two 154 = .ok (.imul, 1) := by decide +kernel
theorem dX2_two_155 : decode cX2_two 155 = .ok (.iload 7, 2) := by decide +kernel
theorem dX2_two_157 : decode cX2_two 157 = .ok (.iadd, 1) := by decide +kernel
theorem dX2_two_158 : decode cX2_two 158 = .ok (.ireturn, 1) := by decide +kernel
theorem dX2_two_159 : decode cX2_two 159 = .ok (.iinc 5 1, 3) := by decide +kernel
theorem dX2_two_162 : decode cX2_two 162 = .ok (.goto (-113), 3) := by decide +kernel
theorem dX2_two_165 : decode cX2_two 165 = .ok (.bipush (-9), 2) := by decide +kernel
theorem dX2_two_167 : decode cX2_two 167 = .ok (.ireturn, 1) := by decide +kernel
theorem dX2_gcd_0 : decode cX2_gcd 0 = .ok (.lload_n 0, 1) := by decide +kernel
theorem dX2_gcd_1 : decode cX2_gcd 1 = .ok (.lstore 4, 2) := by decide +kernel
theorem dX2_gcd_3 : decode cX2_gcd 3 = .ok (.lload_n 2, 1) := by decide +kernel
theorem dX2_gcd_4 : decode cX2_gcd 4 = .ok (.lstore 6, 2) := by decide +kernel
theorem dX2_gcd_6 : decode cX2_gcd 6 = .ok (.lload 6, 2) := by decide +kernel
theorem dX2_gcd_8 : decode cX2_gcd 8 = .ok (.lconst 0, 1) := by decide +kernel
theorem dX2_gcd_9 : decode cX2_gcd 9 = .ok (.lcmp, 1) := by decide +kernel
theorem dX2_gcd_10 : decode cX2_gcd 10 = .ok (.ifCond .eq 21, 3) := by decide +kernel
theorem dX2_gcd_13 : decode cX2_gcd 13 = .ok (.lload 4, 2) := by decide +kernel
theorem dX2_gcd_15 : decode cX2_gcd 15 = .ok (.lload 6, 2) := by decide +kernel
theorem dX2_gcd_17 : decode cX2_gcd 17 = .ok (.lrem, 1) := by decide +kernel
theorem dX2_gcd_18 : decode cX2_gcd 18 = .ok (.lstore 8, 2) := by decide +kernel
theorem dX2_gcd_20 : decode cX2_gcd 20 = .ok (.lload 6, 2) := by decide +kernel
theorem dX2_gcd_22 : decode cX2_gcd 22 = .ok (.lstore 4, 2) := by decide +kernel
theorem dX2_gcd_24 : decode cX2_gcd 24 = .ok (.lload 8, 2) := by decide +kernel
theorem dX2_gcd_26 : decode cX2_gcd 26 = .ok (.lstore 6, 2) := by decide +kernel
theorem dX2_gcd_28 : decode cX2_gcd 28 = .ok (.goto (-22), 3) := by decide +kernel
theorem dX2_gcd_31 : decode cX2_gcd 31 = .ok (.lload 4, 2) := by decide +kernel
theorem dX2_gcd_33 : decode cX2_gcd 33 = .ok (.lreturn, 1) := by decide +kernel
theorem dX2_partOf_0 : decode cX2_partOf 0 = .ok (.lload_n 0, 1) := by decide +kernel
theorem dX2_partOf_1 : decode cX2_partOf 1 = .ok (.lconst 0, 1) := by decide +kernel
theorem dX2_partOf_2 : decode cX2_partOf 2 = .ok (.lcmp, 1) := by decide +kernel
theorem dX2_partOf_3 : decode cX2_partOf 3 = .ok (.ifCond .ne 7, 3) := by decide +kernel
theorem dX2_partOf_6 : decode cX2_partOf 6 = .ok (.iload 4, 2) := by decide +kernel
theorem dX2_partOf_8 : decode cX2_partOf 8 = .ok (.i2l, 1) := by decide +kernel
theorem dX2_partOf_9 : decode cX2_partOf 9 = .ok (.lreturn, 1) := by decide +kernel
theorem dX2_partOf_10 : decode cX2_partOf 10 = .ok (.iload 4, 2) := by decide +kernel
theorem dX2_partOf_12 : decode cX2_partOf 12 = .ok (.ifCond .ne 7, 3) := by decide +kernel
theorem dX2_partOf_15 : decode cX2_partOf 15 = .ok (.lload_n 0, 1) := by decide +kernel
theorem dX2_partOf_16 : decode cX2_partOf 16 = .ok (.goto 4, 3) := by decide +kernel
theorem dX2_partOf_19 : decode cX2_partOf 19 = .ok (.lload_n 2, 1) := by decide +kernel
theorem dX2_partOf_20 : decode cX2_partOf 20 = .ok (.lload_n 0, 1) := by decide +kernel
theorem dX2_partOf_21 : decode cX2_partOf 21 = .ok (.lload_n 2, 1) := by decide +kernel
theorem dX2_partOf_22 : decode cX2_partOf 22 = .ok (.invokestatic 204, 3) := by decide +kernel
theorem dX2_partOf_25 : decode cX2_partOf 25 = .ok (.ldiv, 1) := by decide +kernel
theorem dX2_partOf_26 : decode cX2_partOf 26 = .ok (.lreturn, 1) := by decide +kernel
theorem dX2_rain_0 : decode cX2_rain 0 = .ok (.aload_n 0, 1) := by decide +kernel
theorem dX2_rain_1 : decode cX2_rain 1 = .ok (.iload_n 1, 1) := by decide +kernel
theorem dX2_rain_2 : decode cX2_rain 2 = .ok (.invokevirtual 147, 3) := by decide +kernel
theorem dX2_rain_5 : decode cX2_rain 5 = .ok (.ifCond .ne 9, 3) := by decide +kernel
theorem dX2_rain_8 : decode cX2_rain 8 = .ok (.aload_n 0, 1) := by decide +kernel
theorem dX2_rain_9 : decode cX2_rain 9 = .ok (.iconst (-1), 1) := by decide +kernel
theorem dX2_rain_10 : decode cX2_rain 10 = .ok (.invokevirtual 208, 3) := by decide +kernel
theorem dX2_rain_13 : decode cX2_rain 13 = .ok (.lreturn, 1) := by decide +kernel
theorem dX2_rain_14 : decode cX2_rain 14 = .ok (.iload_n 2, 1) := by decide +kernel
theorem dX2_rain_15 : decode cX2_rain 15 = .ok (.ifCond .lt 8, 3) := by decide +kernel
theorem dX2_rain_18 : decode cX2_rain 18 = .ok (.iload_n 3, 1) := by decide +kernel
theorem dX2_rain_19 : decode cX2_rain 19 = .ok (.iconst 2, 1) := by decide +kernel
theorem dX2_rain_20 : decode cX2_rain 20 = .ok (.if_icmp .ge 10, 3) := by decide +kernel
theorem dX2_rain_23 : decode cX2_rain 23 = .ok (.aload_n 0, 1) := by decide +kernel
theorem dX2_rain_24 : decode cX2_rain 24 = .ok (.bipush (-4), 2) := by decide +kernel
theorem dX2_rain_26 : decode cX2_rain 26 = .ok (.invokevirtual 208, 3) := by decide +kernel
theorem dX2_rain_29 : decode cX2_rain 29 = .ok (.lreturn, 1) := by decide +kernel
theorem dX2_rain_30 : decode cX2_rain 30 = .ok (.iload_n 2, 1) := by decide +kernel
theorem dX2_rain_31 : decode cX2_rain 31 = .ok (.bipush 7, 2) := by decide +kernel
theorem dX2_rain_33 : decode cX2_rain 33 = .ok (.if_icmp .gt 9, 3) := by decide +kernel
theorem dX2_rain_36 : decode cX2_rain 36 = .ok (.iload_n 3, 1) := by decide +kernel
theorem dX2_rain_37 : decode cX2_rain 37 = .ok (.bipush 20, 2) := by decide +kernel
theorem dX2_rain_39 : decode cX2_rain 39 = .ok (.if_icmp .le 10, 3) := by decide +kernel
theorem dX2_rain_42 : decode cX2_rain 42 = .ok (.aload_n 0, 1) := by decide +kernel
theorem dX2_rain_43 : decode cX2_rain 43 = .ok (.bipush (-6), 2) := by decide +kernel
theorem dX2_rain_45 : decode cX2_rain 45 = .ok (.invokevirtual 208, 3) := by decide +kernel
theorem dX2_rain_48 : decode cX2_rain 48 = .ok (.lreturn, 1) := by decide +kernel
theorem dX2_rain_49 : decode cX2_rain 49 = .ok (.iload 4, 2) := by decide +kernel
theorem dX2_rain_51 : decode cX2_rain 51 = .ok (.iconst 0, 1) := by decide +kernel
theorem dX2_rain_52 : decode cX2_rain 52 = .ok (.iconst 1, 1) := by decide +kernel
theorem dX2_rain_53 : decode cX2_rain 53 = .ok (.invokestatic 40, 3) := by decide +kernel
theorem dX2_rain_56 : decode cX2_rain 56 = .ok (.ifCond .ne 10, 3) := by decide +kernel
theorem dX2_rain_59 : decode cX2_rain 59 = .ok (.aload_n 0, 1) := by decide +kernel
theorem dX2_rain_60 : decode cX2_rain 60 = .ok (.bipush (-2), 2) := by decide +kernel
theorem dX2_rain_62 : decode cX2_rain 62 = .ok (.invokevirtual 208, 3) := by decide +kernel
theorem dX2_rain_65 : decode cX2_rain 65 = .ok (.lreturn, 1) := by decide +kernel
theorem dX2_rain_66 : decode cX2_rain 66 = .ok (.lconst 0, 1) := by decide +kernel
theorem dX2_rain_67 : decode cX2_rain 67 = .ok (.lstore 5, 2) := by decide +kernel
theorem dX2_rain_69 : decode cX2_rain 69 = .ok (.lconst 1, 1) := by decide +kernel
theorem dX2_rain_70 : decode cX2_rain 70 = .ok (.lstore 7, 2) := by decide +kernel
theorem dX2_rain_72 : decode cX2_rain 72 = .ok (.iconst 0, 1) := by decide +kernel
theorem dX2_rain_73 : decode cX2_rain 73 = .ok (.istore 9, 2) := by decide +kernel
theorem dX2_rain_75 : decode cX2_rain 75 = .ok (.iload 9, 2) := by decide +kernel
theorem dX2_rain_77 : decode cX2_rain 77 = .ok (.iload_n 2, 1) := by decide +kernel
theorem dX2_rain_78 : decode cX2_rain 78 = .ok (.if_icmp .ge 16, 3) := by decide +kernel
theorem dX2_rain_81 : decode cX2_rain 81 = .ok (.lload 7, 2) := by decide +kernel
theorem dX2_rain_83 : decode cX2_rain 83 = .ok (.iload_n 3, 1) := by decide +kernel
theorem dX2_rain_84 : decode cX2_rain 84 = .ok (.i2l, 1) := by decide +kernel
theorem dX2_rain_85 : decode cX2_rain 85 = .ok (.lmul, 1) := by decide +kernel
theorem dX2_rain_86 : decode cX2_rain 86 = .ok (.lstore 7, 2) := by decide +kernel
theorem dX2_rain_88 : decode cX2_rain 88 = .ok (.iinc 9 1, 3) := by decide +kernel
theorem dX2_rain_91 : decode cX2_rain 91 = .ok (.goto (-16), 3) := by decide +kernel
theorem dX2_rain_94 : decode cX2_rain 94 = .ok (.iconst 0, 1) := by decide +kernel
theorem dX2_rain_95 : decode cX2_rain 95 = .ok (.istore 9, 2) := by decide +kernel
theorem dX2_rain_97 : decode cX2_rain 97 = .ok (.iload 9, 2) := by decide +kernel
theorem dX2_rain_99 : decode cX2_rain 99 = .ok (.iconst 1, 1) := by decide +kernel
theorem dX2_rain_100 : decode cX2_rain 100 = .ok (.iload_n 2, 1) := by decide +kernel
theorem dX2_rain_101 : decode cX2_rain 101 = .ok (.ishl, 1) := by decide +kernel
theorem dX2_rain_102 : decode cX2_rain 102 = .ok (.if_icmp .ge 107, 3) := by decide +kernel
theorem dX2_rain_105 : decode cX2_rain 105 = .ok (.lconst 1, 1) := by decide +kernel
theorem dX2_rain_106 : decode cX2_rain 106 = .ok (.lstore 10, 2) := by decide +kernel
theorem dX2_rain_108 : decode cX2_rain 108 = .ok (.aload_n 0, 1) := by decide +kernel
theorem dX2_rain_109 : decode cX2_rain 109 = .ok (.getfield 9, 3) := by decide +kernel
theorem dX2_rain_112 : decode cX2_rain 112 = .ok (.aload_n 0, 1) := by decide +kernel
theorem dX2_rain_113 : decode cX2_rain 113 = .ok (.getfield 13, 3) := by decide +kernel
theorem dX2_rain_116 : decode cX2_rain 116 = .ok (.invokestatic 134, 3) := by decide +kernel
theorem dX2_rain_119 : decode cX2_rain 119 = .ok (.iconst 0, 1) := by decide +kernel
theorem dX2_rain_120 : decode cX2_rain 120 = .ok (.istore 12, 2) := by decide +kernel
theorem dX2_rain_122 : decode cX2_rain 122 = .ok (.iload 12, 2) := by decide +kernel
theorem dX2_rain_124 : decode cX2_rain 124 = .ok (.iload_n 2, 1) := by decide +kernel
theorem dX2_rain_125 : decode cX2_rain 125 = .ok (.if_icmp .ge 54, 3) := by decide +kernel
theorem dX2_rain_128 : decode cX2_rain 128 = .ok (.lload 10, 2) := by decide +kernel
theorem dX2_rain_130 : decode cX2_rain 130 = .ok (.iload 9, 2) := by decide +kernel
theorem dX2_rain_132 : decode cX2_rain 132 = .ok (.iload 12, 2) := by decide +kernel
theorem dX2_rain_134 : decode cX2_rain 134 = .ok (.invokestatic 65, 3) := by decide +kernel
theorem dX2_rain_137 : decode cX2_rain 137 = .ok (.ifCond .eq 7, 3) := by decide +kernel
theorem dX2_rain_140 : decode cX2_rain 140 = .ok (.lconst 1, 1) := by decide +kernel
theorem dX2_rain_141 : decode cX2_rain 141 = .ok (.goto 7, 3) := by decide +kernel
theorem dX2_rain_144 : decode cX2_rain 144 = .ok (.iload_n 3, 1) := by decide +kernel
theorem dX2_rain_145 : decode cX2_rain 145 = .ok (.iconst 1, 1) := by decide +kernel
theorem dX2_rain_146 : decode cX2_rain 146 = .ok (.isub, 1) := by decide +kernel
theorem dX2_rain_147 : decode cX2_rain 147 = .ok (.i2l, 1) := by decide +kernel
theorem dX2_rain_148 : decode cX2_rain 148 = .ok (.lmul, 1) := by decide +kernel
theorem dX2_rain_149 : decode cX2_rain 149 = .ok (.lstore 10, 2) := by decide +kernel
theorem dX2_rain_151 : decode cX2_rain 151 = .ok (.aload_n 0, 1) := by decide +kernel
theorem dX2_rain_152 : decode cX2_rain 152 = .ok (.getfield 13, 3) := by decide +kernel
theorem dX2_rain_155 : decode cX2_rain 155 = .ok (.iload 9, 2) := by decide +kernel
theorem dX2_rain_157 : decode cX2_rain 157 = .ok (.iload 12, 2) := by decide +kernel
theorem dX2_rain_159 : decode cX2_rain 159 = .ok (.invokestatic 65, 3) := by decide +kernel
theorem dX2_rain_162 : decode cX2_rain 162 = .ok (.ifCond .eq 7, 3) := by decide +kernel
theorem dX2_rain_165 : decode cX2_rain 165 = .ok (.iconst 0, 1) := by decide +kernel
theorem dX2_rain_166 : decode cX2_rain 166 = .ok (.goto 4, 3) := by decide +kernel
theorem dX2_rain_169 : decode cX2_rain 169 = .ok (.iconst (-1), 1) := by decide +kernel
theorem dX2_rain_170 : decode cX2_rain 170 = .ok (.invokestatic 87, 3) := by decide +kernel
theorem dX2_rain_173 : decode cX2_rain 173 = .ok (.iinc 12 1, 3) := by decide +kernel
theorem dX2_rain_176 : decode cX2_rain 176 = .ok (.goto (-54), 3) := by decide +kernel
theorem dX2_rain_179 : decode cX2_rain 179 = .ok (.lload 5, 2) := by decide +kernel
theorem dX2_rain_181 : decode cX2_rain 181 = .ok (.aload_n 0, 1) := by decide +kernel
theorem dX2_rain_182 : decode cX2_rain 182 = .ok (.getfield 13, 3) := by decide +kernel
theorem dX2_rain_185 : decode cX2_rain 185 = .ok (.iload_n 1, 1) := by decide +kernel
theorem dX2_rain_186 : decode cX2_rain 186 = .ok (.invokestatic 91, 3) := by decide +kernel
theorem dX2_rain_189 : decode cX2_rain 189 = .ok (.bipush 63, 2) := by decide +kernel
theorem dX2_rain_191 : decode cX2_rain 191 = .ok (.if_icmp .ne 8, 3) := by decide +kernel
theorem dX2_rain_194 : decode cX2_rain 194 = .ok (.lload 10, 2) := by decide +kernel
theorem dX2_rain_196 : decode cX2_rain 196 = .ok (.goto 4, 3) := by decide +kernel
theorem dX2_rain_199 : decode cX2_rain 199 = .ok (.lconst 0, 1) := by decide +kernel
theorem dX2_rain_200 : decode cX2_rain 200 = .ok (.ladd, 1) := by decide +kernel
theorem dX2_rain_201 : decode cX2_rain 201 = .ok (.lstore 5, 2) := by decide +kernel
theorem dX2_rain_203 : decode cX2_rain 203 = .ok (.iinc 9 1, 3) := by decide +kernel
theorem dX2_rain_206 : decode cX2_rain 206 = .ok (.goto (-109), 3) := by decide +kernel
theorem dX2_rain_209 : decode cX2_rain 209 = .ok (.lload 5, 2) := by decide +kernel
theorem dX2_rain_211 : decode cX2_rain 211 = .ok (.lload 7, 2) := by decide +kernel
theorem dX2_rain_213 : decode cX2_rain 213 = .ok (.iload 4, 2) := by decide +kernel
theorem dX2_rain_215 : decode cX2_rain 215 = .ok (.invokestatic 212, 3) := by decide +kernel
theorem dX2_rain_218 : decode cX2_rain 218 = .ok (.lreturn, 1) := by decide +kernel
theorem dX2_mean_0 : decode cX2_mean 0 = .ok (.iload_n 1, 1) := by decide +kernel
theorem dX2_mean_1 : decode cX2_mean 1 = .ok (.iconst 0, 1) := by decide +kernel
theorem dX2_mean_2 : decode cX2_mean 2 = .ok (.iconst 1, 1) := by decide +kernel
theorem dX2_mean_3 : decode cX2_mean 3 = .ok (.invokestatic 40, 3) := by decide +kernel
theorem dX2_mean_6 : decode cX2_mean 6 = .ok (.ifCond .eq 32, 3) := by decide +kernel
theorem dX2_mean_9 : decode cX2_mean 9 = .ok (.aload_n 0, 1) := by decide +kernel
theorem dX2_mean_10 : decode cX2_mean 10 = .ok (.iconst 1, 1) := by decide +kernel
theorem dX2_mean_11 : decode cX2_mean 11 = .ok (.aload_n 0, 1) := by decide +kernel
theorem dX2_mean_12 : decode cX2_mean 12 = .ok (.getfield 9, 3) := by decide +kernel
theorem dX2_mean_15 : decode cX2_mean 15 = .ok (.iconst 0, 1) := by decide +kernel
theorem dX2_mean_16 : decode cX2_mean 16 = .ok (.iaload, 1) := by decide +kernel
theorem dX2_mean_17 : decode cX2_mean 17 = .ok (.ishl, 1) := by decide +kernel
theorem dX2_mean_18 : decode cX2_mean 18 = .ok (.iconst 1, 1) := by decide +kernel
theorem dX2_mean_19 : decode cX2_mean 19 = .ok (.isub, 1) := by decide +kernel
theorem dX2_mean_20 : decode cX2_mean 20 = .ok (.invokevirtual 177, 3) := by decide +kernel
theorem dX2_mean_23 : decode cX2_mean 23 = .ok (.i2l, 1) := by decide +kernel
theorem dX2_mean_24 : decode cX2_mean 24 = .ok (.aload_n 0, 1) := by decide +kernel
theorem dX2_mean_25 : decode cX2_mean 25 = .ok (.getfield 9, 3) := by decide +kernel
theorem dX2_mean_28 : decode cX2_mean 28 = .ok (.iconst 0, 1) := by decide +kernel
theorem dX2_mean_29 : decode cX2_mean 29 = .ok (.iaload, 1) := by decide +kernel
theorem dX2_mean_30 : decode cX2_mean 30 = .ok (.i2l, 1) := by decide +kernel
theorem dX2_mean_31 : decode cX2_mean 31 = .ok (.iload_n 1, 1) := by decide +kernel
theorem dX2_mean_32 : decode cX2_mean 32 = .ok (.invokestatic 212, 3) := by decide +kernel
theorem dX2_mean_35 : decode cX2_mean 35 = .ok (.goto 9, 3) := by decide +kernel
theorem dX2_mean_38 : decode cX2_mean 38 = .ok (.aload_n 0, 1) := by decide +kernel
theorem dX2_mean_39 : decode cX2_mean 39 = .ok (.bipush (-2), 2) := by decide +kernel
theorem dX2_mean_41 : decode cX2_mean 41 = .ok (.invokevirtual 208, 3) := by decide +kernel
theorem dX2_mean_44 : decode cX2_mean 44 = .ok (.lreturn, 1) := by decide +kernel
theorem dX2_isSaidSo_0 : decode cX2_isSaidSo 0 = .ok (.iconst 1, 1) := by decide +kernel
theorem dX2_isSaidSo_1 : decode cX2_isSaidSo 1 = .ok (.istore_n 1, 1) := by decide +kernel
theorem dX2_isSaidSo_2 : decode cX2_isSaidSo 2 = .ok (.iconst 0, 1) := by decide +kernel
theorem dX2_isSaidSo_3 : decode cX2_isSaidSo 3 = .ok (.istore_n 2, 1) := by decide +kernel
theorem dX2_isSaidSo_4 : decode cX2_isSaidSo 4 = .ok (.iload_n 2, 1) := by decide +kernel
theorem dX2_isSaidSo_5 : decode cX2_isSaidSo 5 = .ok (.aload_n 0, 1) := by decide +kernel
theorem dX2_isSaidSo_6 : decode cX2_isSaidSo 6 = .ok (.getfield 216, 3) := by decide +kernel
theorem dX2_isSaidSo_9 : decode cX2_isSaidSo 9 = .ok (.if_icmp .ge 45, 3) := by decide +kernel
theorem dX2_isSaidSo_12 : decode cX2_isSaidSo 12 = .ok (.iload_n 1, 1) := by decide +kernel
theorem dX2_isSaidSo_13 : decode cX2_isSaidSo 13 = .ok (.aload_n 0, 1) := by decide +kernel
theorem dX2_isSaidSo_14 : decode cX2_isSaidSo 14 = .ok (.iload_n 2, 1) := by decide +kernel
theorem dX2_isSaidSo_15 : decode cX2_isSaidSo 15 = .ok (.invokevirtual 147, 3) := by decide +kernel
theorem dX2_isSaidSo_18 : decode cX2_isSaidSo 18 = .ok (.ifCond .eq 27, 3) := by decide +kernel
theorem dX2_isSaidSo_21 : decode cX2_isSaidSo 21 = .ok (.aload_n 0, 1) := by decide +kernel
theorem dX2_isSaidSo_22 : decode cX2_isSaidSo 22 = .ok (.getfield 13, 3) := by decide +kernel
theorem dX2_isSaidSo_25 : decode cX2_isSaidSo 25 = .ok (.iload_n 2, 1) := by decide +kernel
theorem dX2_isSaidSo_26 : decode cX2_isSaidSo 26 = .ok (.invokestatic 91, 3) := by decide +kernel
theorem dX2_isSaidSo_29 : decode cX2_isSaidSo 29 = .ok (.invokestatic 94, 3) := by decide +kernel
theorem dX2_isSaidSo_32 : decode cX2_isSaidSo 32 = .ok (.aload_n 0, 1) := by decide +kernel
theorem dX2_isSaidSo_33 : decode cX2_isSaidSo 33 = .ok (.getfield 25, 3) := by decide +kernel
theorem dX2_isSaidSo_36 : decode cX2_isSaidSo 36 = .ok (.iload_n 2, 1) := by decide +kernel
theorem dX2_isSaidSo_37 : decode cX2_isSaidSo 37 = .ok (.iaload, 1) := by decide +kernel
theorem dX2_isSaidSo_38 : decode cX2_isSaidSo 38 = .ok (.if_icmp .ne 7, 3) := by decide +kernel
theorem dX2_isSaidSo_41 : decode cX2_isSaidSo 41 = .ok (.iconst 1, 1) := by decide +kernel
theorem dX2_isSaidSo_42 : decode cX2_isSaidSo 42 = .ok (.goto 4, 3) := by decide +kernel
theorem dX2_isSaidSo_45 : decode cX2_isSaidSo 45 = .ok (.iconst 0, 1) := by decide +kernel
theorem dX2_isSaidSo_46 : decode cX2_isSaidSo 46 = .ok (.iand, 1) := by decide +kernel
theorem dX2_isSaidSo_47 : decode cX2_isSaidSo 47 = .ok (.istore_n 1, 1) := by decide +kernel
theorem dX2_isSaidSo_48 : decode cX2_isSaidSo 48 = .ok (.iinc 2 1, 3) := by decide +kernel
theorem dX2_isSaidSo_51 : decode cX2_isSaidSo 51 = .ok (.goto (-47), 3) := by decide +kernel
theorem dX2_isSaidSo_54 : decode cX2_isSaidSo 54 = .ok (.iload_n 1, 1) := by decide +kernel
theorem dX2_isSaidSo_55 : decode cX2_isSaidSo 55 = .ok (.ireturn, 1) := by decide +kernel
theorem dX2_whatSaid_0 : decode cX2_whatSaid 0 = .ok (.aload_n 0, 1) := by decide +kernel
theorem dX2_whatSaid_1 : decode cX2_whatSaid 1 = .ok (.iload_n 1, 1) := by decide +kernel
theorem dX2_whatSaid_2 : decode cX2_whatSaid 2 = .ok (.invokevirtual 124, 3) := by decide +kernel
theorem dX2_whatSaid_5 : decode cX2_whatSaid 5 = .ok (.ifCond .ne 9, 3) := by decide +kernel
theorem dX2_whatSaid_8 : decode cX2_whatSaid 8 = .ok (.aload_n 0, 1) := by decide +kernel
theorem dX2_whatSaid_9 : decode cX2_whatSaid 9 = .ok (.iconst (-1), 1) := by decide +kernel
theorem dX2_whatSaid_10 : decode cX2_whatSaid 10 = .ok (.invokevirtual 36, 3) := by decide +kernel
theorem dX2_whatSaid_13 : decode cX2_whatSaid 13 = .ok (.ireturn, 1) := by decide +kernel
theorem dX2_whatSaid_14 : decode cX2_whatSaid 14 = .ok (.iload_n 2, 1) := by decide +kernel
theorem dX2_whatSaid_15 : decode cX2_whatSaid 15 = .ok (.iconst 0, 1) := by decide +kernel
theorem dX2_whatSaid_16 : decode cX2_whatSaid 16 = .ok (.iconst 1, 1) := by decide +kernel
theorem dX2_whatSaid_17 : decode cX2_whatSaid 17 = .ok (.invokestatic 40, 3) := by decide +kernel
theorem dX2_whatSaid_20 : decode cX2_whatSaid 20 = .ok (.ifCond .ne 10, 3) := by decide +kernel
theorem dX2_whatSaid_23 : decode cX2_whatSaid 23 = .ok (.aload_n 0, 1) := by decide +kernel
theorem dX2_whatSaid_24 : decode cX2_whatSaid 24 = .ok (.bipush (-2), 2) := by decide +kernel
theorem dX2_whatSaid_26 : decode cX2_whatSaid 26 = .ok (.invokevirtual 36, 3) := by decide +kernel
theorem dX2_whatSaid_29 : decode cX2_whatSaid 29 = .ok (.ireturn, 1) := by decide +kernel
theorem dX2_whatSaid_30 : decode cX2_whatSaid 30 = .ok (.iconst 0, 1) := by decide +kernel
theorem dX2_whatSaid_31 : decode cX2_whatSaid 31 = .ok (.istore_n 3, 1) := by decide +kernel
theorem dX2_whatSaid_32 : decode cX2_whatSaid 32 = .ok (.iconst 0, 1) := by decide +kernel
theorem dX2_whatSaid_33 : decode cX2_whatSaid 33 = .ok (.istore 4, 2) := by decide +kernel
theorem dX2_whatSaid_35 : decode cX2_whatSaid 35 = .ok (.iload 4, 2) := by decide +kernel
theorem dX2_whatSaid_37 : decode cX2_whatSaid 37 = .ok (.iload_n 2, 1) := by decide +kernel
theorem dX2_whatSaid_38 : decode cX2_whatSaid 38 = .ok (.ifCond .ne 8, 3) := by decide +kernel
theorem dX2_whatSaid_41 : decode cX2_whatSaid 41 = .ok (.bipush 6, 2) := by decide +kernel
theorem dX2_whatSaid_43 : decode cX2_whatSaid 43 = .ok (.goto 5, 3) := by decide +kernel
theorem dX2_whatSaid_46 : decode cX2_whatSaid 46 = .ok (.bipush 6, 2) := by decide +kernel
theorem dX2_whatSaid_48 : decode cX2_whatSaid 48 = .ok (.if_icmp .ge 67, 3) := by decide +kernel
theorem dX2_whatSaid_51 : decode cX2_whatSaid 51 = .ok (.aload_n 0, 1) := by decide +kernel
theorem dX2_whatSaid_52 : decode cX2_whatSaid 52 = .ok (.getfield 9, 3) := by decide +kernel
theorem dX2_whatSaid_55 : decode cX2_whatSaid 55 = .ok (.aload_n 0, 1) := by decide +kernel
theorem dX2_whatSaid_56 : decode cX2_whatSaid 56 = .ok (.getfield 13, 3) := by decide +kernel
theorem dX2_whatSaid_59 : decode cX2_whatSaid 59 = .ok (.invokestatic 134, 3) := by decide +kernel
theorem dX2_whatSaid_62 : decode cX2_whatSaid 62 = .ok (.aload_n 0, 1) := by decide +kernel
theorem dX2_whatSaid_63 : decode cX2_whatSaid 63 = .ok (.getfield 13, 3) := by decide +kernel
theorem dX2_whatSaid_66 : decode cX2_whatSaid 66 = .ok (.iload_n 1, 1) := by decide +kernel
theorem dX2_whatSaid_67 : decode cX2_whatSaid 67 = .ok (.iload_n 2, 1) := by decide +kernel
theorem dX2_whatSaid_68 : decode cX2_whatSaid 68 = .ok (.ifCond .ne 7, 3) := by decide +kernel
theorem dX2_whatSaid_71 : decode cX2_whatSaid 71 = .ok (.iconst 2, 1) := by decide +kernel
theorem dX2_whatSaid_72 : decode cX2_whatSaid 72 = .ok (.goto 4, 3) := by decide +kernel
theorem dX2_whatSaid_75 : decode cX2_whatSaid 75 = .ok (.iconst 0, 1) := by decide +kernel
theorem dX2_whatSaid_76 : decode cX2_whatSaid 76 = .ok (.invokestatic 44, 3) := by decide +kernel
theorem dX2_whatSaid_79 : decode cX2_whatSaid 79 = .ok (.iload 4, 2) := by decide +kernel
theorem dX2_whatSaid_81 : decode cX2_whatSaid 81 = .ok (.iastore, 1) := by decide +kernel
theorem dX2_whatSaid_82 : decode cX2_whatSaid 82 = .ok (.aload_n 0, 1) := by decide +kernel
theorem dX2_whatSaid_83 : decode cX2_whatSaid 83 = .ok (.getfield 13, 3) := by decide +kernel
theorem dX2_whatSaid_86 : decode cX2_whatSaid 86 = .ok (.iload_n 1, 1) := by decide +kernel
theorem dX2_whatSaid_87 : decode cX2_whatSaid 87 = .ok (.iconst (-1), 1) := by decide +kernel
theorem dX2_whatSaid_88 : decode cX2_whatSaid 88 = .ok (.invokestatic 72, 3) := by decide +kernel
theorem dX2_whatSaid_91 : decode cX2_whatSaid 91 = .ok (.iload_n 3, 1) := by decide +kernel
theorem dX2_whatSaid_92 : decode cX2_whatSaid 92 = .ok (.aload_n 0, 1) := by decide +kernel
theorem dX2_whatSaid_93 : decode cX2_whatSaid 93 = .ok (.invokevirtual 219, 3) := by decide +kernel
theorem dX2_whatSaid_96 : decode cX2_whatSaid 96 = .ok (.ifCond .eq 10, 3) := by decide +kernel
theorem dX2_whatSaid_99 : decode cX2_whatSaid 99 = .ok (.iconst 1, 1) := by decide +kernel
theorem dX2_whatSaid_100 : decode cX2_whatSaid 100 = .ok (.iload 4, 2) := by decide +kernel
theorem dX2_whatSaid_102 : decode cX2_whatSaid 102 = .ok (.ishl, 1) := by decide +kernel
theorem dX2_whatSaid_103 : decode cX2_whatSaid 103 = .ok (.goto 4, 3) := by decide +kernel
theorem dX2_whatSaid_106 : decode cX2_whatSaid 106 = .ok (.iconst 0, 1) := by decide +kernel
theorem dX2_whatSaid_107 : decode cX2_whatSaid 107 = .ok (.ior, 1) := by decide +kernel
theorem dX2_whatSaid_108 : decode cX2_whatSaid 108 = .ok (.istore_n 3, 1) := by decide +kernel
theorem dX2_whatSaid_109 : decode cX2_whatSaid 109 = .ok (.iinc 4 1, 3) := by decide +kernel
theorem dX2_whatSaid_112 : decode cX2_whatSaid 112 = .ok (.goto (-77), 3) := by decide +kernel
theorem dX2_whatSaid_115 : decode cX2_whatSaid 115 = .ok (.iload_n 3, 1) := by decide +kernel
theorem dX2_whatSaid_116 : decode cX2_whatSaid 116 = .ok (.ireturn, 1) := by decide +kernel
theorem dX2_row_0 : decode cX2_row 0 = .ok (.iload_n 1, 1) := by decide +kernel
theorem dX2_row_1 : decode cX2_row 1 = .ok (.iconst 0, 1) := by decide +kernel
theorem dX2_row_2 : decode cX2_row 2 = .ok (.bipush 99, 2) := by decide +kernel
theorem dX2_row_4 : decode cX2_row 4 = .ok (.invokestatic 153, 3) := by decide +kernel
theorem dX2_row_7 : decode cX2_row 7 = .ok (.istore_n 2, 1) := by decide +kernel
theorem dX2_row_8 : decode cX2_row 8 = .ok (.iload_n 2, 1) := by decide +kernel
theorem dX2_row_9 : decode cX2_row 9 = .ok (.ifCond .ne 15, 3) := by decide +kernel
theorem dX2_row_12 : decode cX2_row 12 = .ok (.aload_n 0, 1) := by decide +kernel
theorem dX2_row_13 : decode cX2_row 13 = .ok (.getfield 216, 3) := by decide +kernel
theorem dX2_row_16 : decode cX2_row 16 = .ok (.bipush 16, 2) := by decide +kernel
theorem dX2_row_18 : decode cX2_row 18 = .ok (.if_icmp .ne 6, 3) := by decide +kernel
theorem dX2_row_21 : decode cX2_row 21 = .ok (.bipush (-6), 2) := by decide +kernel
theorem dX2_row_23 : decode cX2_row 23 = .ok (.istore_n 2, 1) := by decide +kernel
theorem dX2_row_24 : decode cX2_row 24 = .ok (.iload_n 2, 1) := by decide +kernel
theorem dX2_row_25 : decode cX2_row 25 = .ok (.ifCond .eq 9, 3) := by decide +kernel
theorem dX2_row_28 : decode cX2_row 28 = .ok (.aload_n 0, 1) := by decide +kernel
theorem dX2_row_29 : decode cX2_row 29 = .ok (.iload_n 2, 1) := by decide +kernel
theorem dX2_row_30 : decode cX2_row 30 = .ok (.invokevirtual 36, 3) := by decide +kernel
theorem dX2_row_33 : decode cX2_row 33 = .ok (.ireturn, 1) := by decide +kernel
theorem dX2_row_34 : decode cX2_row 34 = .ok (.aload_n 0, 1) := by decide +kernel
theorem dX2_row_35 : decode cX2_row 35 = .ok (.getfield 25, 3) := by decide +kernel
theorem dX2_row_38 : decode cX2_row 38 = .ok (.aload_n 0, 1) := by decide +kernel
theorem dX2_row_39 : decode cX2_row 39 = .ok (.getfield 216, 3) := by decide +kernel
theorem dX2_row_42 : decode cX2_row 42 = .ok (.iload_n 1, 1) := by decide +kernel
theorem dX2_row_43 : decode cX2_row 43 = .ok (.iastore, 1) := by decide +kernel
theorem dX2_row_44 : decode cX2_row 44 = .ok (.aload_n 0, 1) := by decide +kernel
theorem dX2_row_45 : decode cX2_row 45 = .ok (.dup, 1) := by decide +kernel
theorem dX2_row_46 : decode cX2_row 46 = .ok (.getfield 216, 3) := by decide +kernel
theorem dX2_row_49 : decode cX2_row 49 = .ok (.iconst 1, 1) := by decide +kernel
theorem dX2_row_50 : decode cX2_row 50 = .ok (.iadd, 1) := by decide +kernel
theorem dX2_row_51 : decode cX2_row 51 = .ok (.putfield 216, 3) := by decide +kernel
theorem dX2_row_54 : decode cX2_row 54 = .ok (.aload_n 0, 1) := by decide +kernel
theorem dX2_row_55 : decode cX2_row 55 = .ok (.getfield 216, 3) := by decide +kernel
theorem dX2_row_58 : decode cX2_row 58 = .ok (.ireturn, 1) := by decide +kernel
theorem dX2_judge_0 : decode cX2_judge 0 = .ok (.aload_n 0, 1) := by decide +kernel
theorem dX2_judge_1 : decode cX2_judge 1 = .ok (.getfield 216, 3) := by decide +kernel
theorem dX2_judge_4 : decode cX2_judge 4 = .ok (.istore_n 1, 1) := by decide +kernel
theorem dX2_judge_5 : decode cX2_judge 5 = .ok (.aload_n 0, 1) := by decide +kernel
theorem dX2_judge_6 : decode cX2_judge 6 = .ok (.iconst 0, 1) := by decide +kernel
theorem dX2_judge_7 : decode cX2_judge 7 = .ok (.putfield 216, 3) := by decide +kernel
theorem dX2_judge_10 : decode cX2_judge 10 = .ok (.aload_n 0, 1) := by decide +kernel
theorem dX2_judge_11 : decode cX2_judge 11 = .ok (.getfield 9, 3) := by decide +kernel
theorem dX2_judge_14 : decode cX2_judge 14 = .ok (.aload_n 0, 1) := by decide +kernel
theorem dX2_judge_15 : decode cX2_judge 15 = .ok (.getfield 13, 3) := by decide +kernel
theorem dX2_judge_18 : decode cX2_judge 18 = .ok (.invokestatic 134, 3) := by decide +kernel
theorem dX2_judge_21 : decode cX2_judge 21 = .ok (.iconst 0, 1) := by decide +kernel
theorem dX2_judge_22 : decode cX2_judge 22 = .ok (.istore_n 2, 1) := by decide +kernel
theorem dX2_judge_23 : decode cX2_judge 23 = .ok (.iload_n 2, 1) := by decide +kernel
theorem dX2_judge_24 : decode cX2_judge 24 = .ok (.iload_n 1, 1) := by decide +kernel
theorem dX2_judge_25 : decode cX2_judge 25 = .ok (.if_icmp .ge 50, 3) := by decide +kernel
theorem dX2_judge_28 : decode cX2_judge 28 = .ok (.aload_n 0, 1) := by decide +kernel
theorem dX2_judge_29 : decode cX2_judge 29 = .ok (.getfield 13, 3) := by decide +kernel
theorem dX2_judge_32 : decode cX2_judge 32 = .ok (.iconst 3, 1) := by decide +kernel
theorem dX2_judge_33 : decode cX2_judge 33 = .ok (.iaload, 1) := by decide +kernel
theorem dX2_judge_34 : decode cX2_judge 34 = .ok (.bipush 99, 2) := by decide +kernel
theorem dX2_judge_36 : decode cX2_judge 36 = .ok (.if_icmp .le 8, 3) := by decide +kernel
theorem dX2_judge_39 : decode cX2_judge 39 = .ok (.bipush 99, 2) := by decide +kernel
theorem dX2_judge_41 : decode cX2_judge 41 = .ok (.goto 9, 3) := by decide +kernel
theorem dX2_judge_44 : decode cX2_judge 44 = .ok (.aload_n 0, 1) := by decide +kernel
theorem dX2_judge_45 : decode cX2_judge 45 = .ok (.getfield 13, 3) := by decide +kernel
theorem dX2_judge_48 : decode cX2_judge 48 = .ok (.iconst 3, 1) := by decide +kernel
theorem dX2_judge_49 : decode cX2_judge 49 = .ok (.iaload, 1) := by decide +kernel
theorem dX2_judge_50 : decode cX2_judge 50 = .ok (.aload_n 0, 1) := by decide +kernel
theorem dX2_judge_51 : decode cX2_judge 51 = .ok (.getfield 25, 3) := by decide +kernel
theorem dX2_judge_54 : decode cX2_judge 54 = .ok (.iload_n 2, 1) := by decide +kernel
theorem dX2_judge_55 : decode cX2_judge 55 = .ok (.iaload, 1) := by decide +kernel
theorem dX2_judge_56 : decode cX2_judge 56 = .ok (.if_icmp .eq 5, 3) := by decide +kernel
theorem dX2_judge_59 : decode cX2_judge 59 = .ok (.iload_n 2, 1) := by decide +kernel
theorem dX2_judge_60 : decode cX2_judge 60 = .ok (.ireturn, 1) := by decide +kernel
theorem dX2_judge_61 : decode cX2_judge 61 = .ok (.aload_n 0, 1) := by decide +kernel
theorem dX2_judge_62 : decode cX2_judge 62 = .ok (.getfield 13, 3) := by decide +kernel
theorem dX2_judge_65 : decode cX2_judge 65 = .ok (.iconst (-1), 1) := by decide +kernel
theorem dX2_judge_66 : decode cX2_judge 66 = .ok (.invokestatic 87, 3) := by decide +kernel
theorem dX2_judge_69 : decode cX2_judge 69 = .ok (.iinc 2 1, 3) := by decide +kernel
theorem dX2_judge_72 : decode cX2_judge 72 = .ok (.goto (-49), 3) := by decide +kernel
theorem dX2_judge_75 : decode cX2_judge 75 = .ok (.bipush (-9), 2) := by decide +kernel
theorem dX2_judge_77 : decode cX2_judge 77 = .ok (.ireturn, 1) := by decide +kernel
theorem dX2_clear_0 : decode cX2_clear 0 = .ok (.aload_n 0, 1) := by decide +kernel
theorem dX2_clear_1 : decode cX2_clear 1 = .ok (.getfield 216, 3) := by decide +kernel
theorem dX2_clear_4 : decode cX2_clear 4 = .ok (.istore_n 1, 1) := by decide +kernel
theorem dX2_clear_5 : decode cX2_clear 5 = .ok (.aload_n 0, 1) := by decide +kernel
theorem dX2_clear_6 : decode cX2_clear 6 = .ok (.iconst 0, 1) := by decide +kernel
theorem dX2_clear_7 : decode cX2_clear 7 = .ok (.putfield 216, 3) := by decide +kernel
theorem dX2_clear_10 : decode cX2_clear 10 = .ok (.iload_n 1, 1) := by decide +kernel
theorem dX2_clear_11 : decode cX2_clear 11 = .ok (.ireturn, 1) := by decide +kernel
theorem dX2_drawn_0 : decode cX2_drawn 0 = .ok (.aload_n 0, 1) := by decide +kernel
theorem dX2_drawn_1 : decode cX2_drawn 1 = .ok (.aload_n 0, 1) := by decide +kernel
theorem dX2_drawn_2 : decode cX2_drawn 2 = .ok (.getfield 222, 3) := by decide +kernel
theorem dX2_drawn_5 : decode cX2_drawn 5 = .ok (.ldc 225, 2) := by decide +kernel
theorem dX2_drawn_7 : decode cX2_drawn 7 = .ok (.imul, 1) := by decide +kernel
theorem dX2_drawn_8 : decode cX2_drawn 8 = .ok (.ldc 226, 2) := by decide +kernel
theorem dX2_drawn_10 : decode cX2_drawn 10 = .ok (.iadd, 1) := by decide +kernel
theorem dX2_drawn_11 : decode cX2_drawn 11 = .ok (.putfield 222, 3) := by decide +kernel
theorem dX2_drawn_14 : decode cX2_drawn 14 = .ok (.aload_n 0, 1) := by decide +kernel
theorem dX2_drawn_15 : decode cX2_drawn 15 = .ok (.getfield 222, 3) := by decide +kernel
theorem dX2_drawn_18 : decode cX2_drawn 18 = .ok (.ldc 227, 2) := by decide +kernel
theorem dX2_drawn_20 : decode cX2_drawn 20 = .ok (.iand, 1) := by decide +kernel
theorem dX2_drawn_21 : decode cX2_drawn 21 = .ok (.sipush 256, 3) := by decide +kernel
theorem dX2_drawn_24 : decode cX2_drawn 24 = .ok (.idiv, 1) := by decide +kernel
theorem dX2_drawn_25 : decode cX2_drawn 25 = .ok (.iload_n 1, 1) := by decide +kernel
theorem dX2_drawn_26 : decode cX2_drawn 26 = .ok (.irem, 1) := by decide +kernel
theorem dX2_drawn_27 : decode cX2_drawn 27 = .ok (.ireturn, 1) := by decide +kernel
theorem dX2_lots_0 : decode cX2_lots 0 = .ok (.iload_n 1, 1) := by decide +kernel
theorem dX2_lots_1 : decode cX2_lots 1 = .ok (.iconst 1, 1) := by decide +kernel
theorem dX2_lots_2 : decode cX2_lots 2 = .ok (.if_icmp .ge 10, 3) := by decide +kernel
theorem dX2_lots_5 : decode cX2_lots 5 = .ok (.aload_n 0, 1) := by decide +kernel
theorem dX2_lots_6 : decode cX2_lots 6 = .ok (.bipush (-4), 2) := by decide +kernel
theorem dX2_lots_8 : decode cX2_lots 8 = .ok (.invokevirtual 36, 3) := by decide +kernel
theorem dX2_lots_11 : decode cX2_lots 11 = .ok (.ireturn, 1) := by decide +kernel
theorem dX2_lots_12 : decode cX2_lots 12 = .ok (.iload_n 1, 1) := by decide +kernel
theorem dX2_lots_13 : decode cX2_lots 13 = .ok (.bipush 20, 2) := by decide +kernel
theorem dX2_lots_15 : decode cX2_lots 15 = .ok (.if_icmp .le 10, 3) := by decide +kernel
theorem dX2_lots_18 : decode cX2_lots 18 = .ok (.aload_n 0, 1) := by decide +kernel
theorem dX2_lots_19 : decode cX2_lots 19 = .ok (.bipush (-6), 2) := by decide +kernel
theorem dX2_lots_21 : decode cX2_lots 21 = .ok (.invokevirtual 36, 3) := by decide +kernel
theorem dX2_lots_24 : decode cX2_lots 24 = .ok (.ireturn, 1) := by decide +kernel
theorem dX2_lots_25 : decode cX2_lots 25 = .ok (.iload_n 3, 1) := by decide +kernel
theorem dX2_lots_26 : decode cX2_lots 26 = .ok (.iconst 0, 1) := by decide +kernel
theorem dX2_lots_27 : decode cX2_lots 27 = .ok (.iconst 1, 1) := by decide +kernel
theorem dX2_lots_28 : decode cX2_lots 28 = .ok (.invokestatic 40, 3) := by decide +kernel
theorem dX2_lots_31 : decode cX2_lots 31 = .ok (.ifCond .ne 10, 3) := by decide +kernel
theorem dX2_lots_34 : decode cX2_lots 34 = .ok (.aload_n 0, 1) := by decide +kernel
theorem dX2_lots_35 : decode cX2_lots 35 = .ok (.bipush (-2), 2) := by decide +kernel
theorem dX2_lots_37 : decode cX2_lots 37 = .ok (.invokevirtual 36, 3) := by decide +kernel
theorem dX2_lots_40 : decode cX2_lots 40 = .ok (.ireturn, 1) := by decide +kernel
theorem dX2_lots_41 : decode cX2_lots 41 = .ok (.aload_n 0, 1) := by decide +kernel
theorem dX2_lots_42 : decode cX2_lots 42 = .ok (.iload_n 2, 1) := by decide +kernel
theorem dX2_lots_43 : decode cX2_lots 43 = .ok (.putfield 222, 3) := by decide +kernel
theorem dX2_lots_46 : decode cX2_lots 46 = .ok (.iconst 0, 1) := by decide +kernel
theorem dX2_lots_47 : decode cX2_lots 47 = .ok (.istore 4, 2) := by decide +kernel
theorem dX2_lots_49 : decode cX2_lots 49 = .ok (.iconst 0, 1) := by decide +kernel
theorem dX2_lots_50 : decode cX2_lots 50 = .ok (.istore 5, 2) := by decide +kernel
theorem dX2_lots_52 : decode cX2_lots 52 = .ok (.iload 5, 2) := by decide +kernel
theorem dX2_lots_54 : decode cX2_lots 54 = .ok (.iload_n 1, 1) := by decide +kernel
theorem dX2_lots_55 : decode cX2_lots 55 = .ok (.if_icmp .ge 82, 3) := by decide +kernel
theorem dX2_lots_58 : decode cX2_lots 58 = .ok (.aload_n 0, 1) := by decide +kernel
theorem dX2_lots_59 : decode cX2_lots 59 = .ok (.getfield 9, 3) := by decide +kernel
theorem dX2_lots_62 : decode cX2_lots 62 = .ok (.aload_n 0, 1) := by decide +kernel
theorem dX2_lots_63 : decode cX2_lots 63 = .ok (.getfield 13, 3) := by decide +kernel
theorem dX2_lots_66 : decode cX2_lots 66 = .ok (.invokestatic 134, 3) := by decide +kernel
theorem dX2_lots_69 : decode cX2_lots 69 = .ok (.iconst 0, 1) := by decide +kernel
theorem dX2_lots_70 : decode cX2_lots 70 = .ok (.istore 6, 2) := by decide +kernel
theorem dX2_lots_72 : decode cX2_lots 72 = .ok (.iload 6, 2) := by decide +kernel
theorem dX2_lots_74 : decode cX2_lots 74 = .ok (.bipush 8, 2) := by decide +kernel
theorem dX2_lots_76 : decode cX2_lots 76 = .ok (.if_icmp .ge 29, 3) := by decide +kernel
theorem dX2_lots_79 : decode cX2_lots 79 = .ok (.aload_n 0, 1) := by decide +kernel
theorem dX2_lots_80 : decode cX2_lots 80 = .ok (.getfield 13, 3) := by decide +kernel
theorem dX2_lots_83 : decode cX2_lots 83 = .ok (.iconst 4, 1) := by decide +kernel
theorem dX2_lots_84 : decode cX2_lots 84 = .ok (.aload_n 0, 1) := by decide +kernel
theorem dX2_lots_85 : decode cX2_lots 85 = .ok (.bipush 10, 2) := by decide +kernel
theorem dX2_lots_87 : decode cX2_lots 87 = .ok (.invokevirtual 228, 3) := by decide +kernel
theorem dX2_lots_90 : decode cX2_lots 90 = .ok (.iastore, 1) := by decide +kernel
theorem dX2_lots_91 : decode cX2_lots 91 = .ok (.aload_n 0, 1) := by decide +kernel
theorem dX2_lots_92 : decode cX2_lots 92 = .ok (.getfield 13, 3) := by decide +kernel
theorem dX2_lots_95 : decode cX2_lots 95 = .ok (.iconst (-1), 1) := by decide +kernel
theorem dX2_lots_96 : decode cX2_lots 96 = .ok (.invokestatic 87, 3) := by decide +kernel
theorem dX2_lots_99 : decode cX2_lots 99 = .ok (.iinc 6 1, 3) := by decide +kernel
theorem dX2_lots_102 : decode cX2_lots 102 = .ok (.goto (-30), 3) := by decide +kernel
theorem dX2_lots_105 : decode cX2_lots 105 = .ok (.iload 4, 2) := by decide +kernel
theorem dX2_lots_107 : decode cX2_lots 107 = .ok (.iload_n 3, 1) := by decide +kernel
theorem dX2_lots_108 : decode cX2_lots 108 = .ok (.ifCond .ne 13, 3) := by decide +kernel
theorem dX2_lots_111 : decode cX2_lots 111 = .ok (.aload_n 0, 1) := by decide +kernel
theorem dX2_lots_112 : decode cX2_lots 112 = .ok (.getfield 13, 3) := by decide +kernel
theorem dX2_lots_115 : decode cX2_lots 115 = .ok (.invokestatic 180, 3) := by decide +kernel
theorem dX2_lots_118 : decode cX2_lots 118 = .ok (.goto 10, 3) := by decide +kernel
theorem dX2_lots_121 : decode cX2_lots 121 = .ok (.aload_n 0, 1) := by decide +kernel
theorem dX2_lots_122 : decode cX2_lots 122 = .ok (.getfield 13, 3) := by decide +kernel
theorem dX2_lots_125 : decode cX2_lots 125 = .ok (.invokestatic 183, 3) := by decide +kernel
theorem dX2_lots_128 : decode cX2_lots 128 = .ok (.iadd, 1) := by decide +kernel
theorem dX2_lots_129 : decode cX2_lots 129 = .ok (.istore 4, 2) := by decide +kernel
theorem dX2_lots_131 : decode cX2_lots 131 = .ok (.iinc 5 1, 3) := by decide +kernel
theorem dX2_lots_134 : decode cX2_lots 134 = .ok (.goto (-82), 3) := by decide +kernel
theorem dX2_lots_137 : decode cX2_lots 137 = .ok (.iload 4, 2) := by decide +kernel
theorem dX2_lots_139 : decode cX2_lots 139 = .ok (.ireturn, 1) := by decide +kernel
theorem dX2_image_0 : decode cX2_image 0 = .ok (.aload_n 0, 1) := by decide +kernel
theorem dX2_image_1 : decode cX2_image 1 = .ok (.getfield 9, 3) := by decide +kernel
theorem dX2_image_4 : decode cX2_image 4 = .ok (.aload_n 0, 1) := by decide +kernel
theorem dX2_image_5 : decode cX2_image 5 = .ok (.getfield 16, 3) := by decide +kernel
theorem dX2_image_8 : decode cX2_image 8 = .ok (.invokestatic 134, 3) := by decide +kernel
theorem dX2_image_11 : decode cX2_image 11 = .ok (.aload_n 0, 1) := by decide +kernel
theorem dX2_image_12 : decode cX2_image 12 = .ok (.iconst 1, 1) := by decide +kernel
theorem dX2_image_13 : decode cX2_image 13 = .ok (.putfield 231, 3) := by decide +kernel
theorem dX2_image_16 : decode cX2_image 16 = .ok (.aload_n 0, 1) := by decide +kernel
theorem dX2_image_17 : decode cX2_image 17 = .ok (.getfield 9, 3) := by decide +kernel
theorem dX2_image_20 : decode cX2_image 20 = .ok (.iconst 2, 1) := by decide +kernel
theorem dX2_image_21 : decode cX2_image 21 = .ok (.iaload, 1) := by decide +kernel
theorem dX2_image_22 : decode cX2_image 22 = .ok (.ireturn, 1) := by decide +kernel
theorem dX2_on_0 : decode cX2_on 0 = .ok (.aload_n 0, 1) := by decide +kernel
theorem dX2_on_1 : decode cX2_on 1 = .ok (.getfield 231, 3) := by decide +kernel
theorem dX2_on_4 : decode cX2_on 4 = .ok (.ifCond .ne 10, 3) := by decide +kernel
theorem dX2_on_7 : decode cX2_on 7 = .ok (.aload_n 0, 1) := by decide +kernel
theorem dX2_on_8 : decode cX2_on 8 = .ok (.bipush (-3), 2) := by decide +kernel
theorem dX2_on_10 : decode cX2_on 10 = .ok (.invokevirtual 36, 3) := by decide +kernel
theorem dX2_on_13 : decode cX2_on 13 = .ok (.ireturn, 1) := by decide +kernel
theorem dX2_on_14 : decode cX2_on 14 = .ok (.aload_n 0, 1) := by decide +kernel
theorem dX2_on_15 : decode cX2_on 15 = .ok (.getfield 16, 3) := by decide +kernel
theorem dX2_on_18 : decode cX2_on 18 = .ok (.aload_n 0, 1) := by decide +kernel
theorem dX2_on_19 : decode cX2_on 19 = .ok (.getfield 9, 3) := by decide +kernel
theorem dX2_on_22 : decode cX2_on 22 = .ok (.invokestatic 134, 3) := by decide +kernel
theorem dX2_on_25 : decode cX2_on 25 = .ok (.aload_n 0, 1) := by decide +kernel
theorem dX2_on_26 : decode cX2_on 26 = .ok (.getfield 9, 3) := by decide +kernel
theorem dX2_on_29 : decode cX2_on 29 = .ok (.iconst 2, 1) := by decide +kernel
theorem dX2_on_30 : decode cX2_on 30 = .ok (.iaload, 1) := by decide +kernel
theorem dX2_on_31 : decode cX2_on 31 = .ok (.ireturn, 1) := by decide +kernel
theorem dX2_count_0 : decode cX2_count 0 = .ok (.iload_n 1, 1) := by decide +kernel
theorem dX2_count_1 : decode cX2_count 1 = .ok (.bipush 11, 2) := by decide +kernel
theorem dX2_count_3 : decode cX2_count 3 = .ok (.bipush 16, 2) := by decide +kernel
theorem dX2_count_5 : decode cX2_count 5 = .ok (.invokestatic 40, 3) := by decide +kernel
theorem dX2_count_8 : decode cX2_count 8 = .ok (.ifCond .eq 13, 3) := by decide +kernel
theorem dX2_count_11 : decode cX2_count 11 = .ok (.aload_n 0, 1) := by decide +kernel
theorem dX2_count_12 : decode cX2_count 12 = .ok (.getfield 28, 3) := by decide +kernel
theorem dX2_count_15 : decode cX2_count 15 = .ok (.iload_n 1, 1) := by decide +kernel
theorem dX2_count_16 : decode cX2_count 16 = .ok (.bipush 10, 2) := by decide +kernel
theorem dX2_count_18 : decode cX2_count 18 = .ok (.isub, 1) := by decide +kernel
theorem dX2_count_19 : decode cX2_count 19 = .ok (.iaload, 1) := by decide +kernel
theorem dX2_count_20 : decode cX2_count 20 = .ok (.ireturn, 1) := by decide +kernel
theorem dX2_count_21 : decode cX2_count 21 = .ok (.iload_n 1, 1) := by decide +kernel
theorem dX2_count_22 : decode cX2_count 22 = .ok (.tableswitch 79 0 7 #[46, 46, 46, 46, 53, 61, 69, 74], 46) := by decide +kernel
theorem dX2_count_68 : decode cX2_count 68 = .ok (.aload_n 0, 1) := by decide +kernel
theorem dX2_count_69 : decode cX2_count 69 = .ok (.getfield 9, 3) := by decide +kernel
theorem dX2_count_72 : decode cX2_count 72 = .ok (.iload_n 1, 1) := by decide +kernel
theorem dX2_count_73 : decode cX2_count 73 = .ok (.iaload, 1) := by decide +kernel
theorem dX2_count_74 : decode cX2_count 74 = .ok (.ireturn, 1) := by decide +kernel
theorem dX2_count_75 : decode cX2_count 75 = .ok (.aload_n 0, 1) := by decide +kernel
theorem dX2_count_76 : decode cX2_count 76 = .ok (.getfield 9, 3) := by decide +kernel
theorem dX2_count_79 : decode cX2_count 79 = .ok (.invokestatic 150, 3) := by decide +kernel
theorem dX2_count_82 : decode cX2_count 82 = .ok (.ireturn, 1) := by decide +kernel
theorem dX2_count_83 : decode cX2_count 83 = .ok (.aload_n 0, 1) := by decide +kernel
theorem dX2_count_84 : decode cX2_count 84 = .ok (.getfield 9, 3) := by decide +kernel
theorem dX2_count_87 : decode cX2_count 87 = .ok (.invokestatic 183, 3) := by decide +kernel
theorem dX2_count_90 : decode cX2_count 90 = .ok (.ireturn, 1) := by decide +kernel
theorem dX2_count_91 : decode cX2_count 91 = .ok (.aload_n 0, 1) := by decide +kernel
theorem dX2_count_92 : decode cX2_count 92 = .ok (.getfield 216, 3) := by decide +kernel
theorem dX2_count_95 : decode cX2_count 95 = .ok (.ireturn, 1) := by decide +kernel
theorem dX2_count_96 : decode cX2_count 96 = .ok (.aload_n 0, 1) := by decide +kernel
theorem dX2_count_97 : decode cX2_count 97 = .ok (.getfield 97, 3) := by decide +kernel
theorem dX2_count_100 : decode cX2_count 100 = .ok (.ireturn, 1) := by decide +kernel
theorem dX2_count_101 : decode cX2_count 101 = .ok (.bipush (-9), 2) := by decide +kernel
theorem dX2_count_103 : decode cX2_count 103 = .ok (.ireturn, 1) := by decide +kernel
theorem dJ11_isValidCodePoint_9a6ad_0 : decode cJ11_isValidCodePoint_9a6ad 0 = .ok (.iload_n 0, 1) := by decide +kernel
theorem dJ11_isValidCodePoint_9a6ad_1 : decode cJ11_isValidCodePoint_9a6ad 1 = .ok (.bipush 16, 2) := by decide +kernel
theorem dJ11_isValidCodePoint_9a6ad_3 : decode cJ11_isValidCodePoint_9a6ad 3 = .ok (.iushr, 1) := by decide +kernel
theorem dJ11_isValidCodePoint_9a6ad_4 : decode cJ11_isValidCodePoint_9a6ad 4 = .ok (.istore_n 1, 1) := by decide +kernel
theorem dJ11_isValidCodePoint_9a6ad_5 : decode cJ11_isValidCodePoint_9a6ad 5 = .ok (.iload_n 1, 1) := by decide +kernel
theorem dJ11_isValidCodePoint_9a6ad_6 : decode cJ11_isValidCodePoint_9a6ad 6 = .ok (.bipush 17, 2) := by decide +kernel
theorem dJ11_isValidCodePoint_9a6ad_8 : decode cJ11_isValidCodePoint_9a6ad 8 = .ok (.if_icmp .ge 7, 3) := by decide +kernel
theorem dJ11_isValidCodePoint_9a6ad_11 : decode cJ11_isValidCodePoint_9a6ad 11 = .ok (.iconst 1, 1) := by decide +kernel
theorem dJ11_isValidCodePoint_9a6ad_12 : decode cJ11_isValidCodePoint_9a6ad 12 = .ok (.goto 4, 3) := by decide +kernel
theorem dJ11_isValidCodePoint_9a6ad_15 : decode cJ11_isValidCodePoint_9a6ad 15 = .ok (.iconst 0, 1) := by decide +kernel
theorem dJ11_isValidCodePoint_9a6ad_16 : decode cJ11_isValidCodePoint_9a6ad 16 = .ok (.ireturn, 1) := by decide +kernel
theorem dJ11_highSurrogate_5068e_0 : decode cJ11_highSurrogate_5068e 0 = .ok (.iload_n 0, 1) := by decide +kernel
theorem dJ11_highSurrogate_5068e_1 : decode cJ11_highSurrogate_5068e 1 = .ok (.bipush 10, 2) := by decide +kernel
theorem dJ11_highSurrogate_5068e_3 : decode cJ11_highSurrogate_5068e 3 = .ok (.iushr, 1) := by decide +kernel
theorem dJ11_highSurrogate_5068e_4 : decode cJ11_highSurrogate_5068e 4 = .ok (.ldc 110, 2) := by decide +kernel
theorem dJ11_highSurrogate_5068e_6 : decode cJ11_highSurrogate_5068e 6 = .ok (.iadd, 1) := by decide +kernel
theorem dJ11_highSurrogate_5068e_7 : decode cJ11_highSurrogate_5068e 7 = .ok (.i2c, 1) := by decide +kernel
theorem dJ11_highSurrogate_5068e_8 : decode cJ11_highSurrogate_5068e 8 = .ok (.ireturn, 1) := by decide +kernel
theorem dJ11_lowSurrogate_5068e_0 : decode cJ11_lowSurrogate_5068e 0 = .ok (.iload_n 0, 1) := by decide +kernel
theorem dJ11_lowSurrogate_5068e_1 : decode cJ11_lowSurrogate_5068e 1 = .ok (.sipush 1023, 3) := by decide +kernel
theorem dJ11_lowSurrogate_5068e_4 : decode cJ11_lowSurrogate_5068e 4 = .ok (.iand, 1) := by decide +kernel
theorem dJ11_lowSurrogate_5068e_5 : decode cJ11_lowSurrogate_5068e 5 = .ok (.ldc 76, 2) := by decide +kernel
theorem dJ11_lowSurrogate_5068e_7 : decode cJ11_lowSurrogate_5068e 7 = .ok (.iadd, 1) := by decide +kernel
theorem dJ11_lowSurrogate_5068e_8 : decode cJ11_lowSurrogate_5068e 8 = .ok (.i2c, 1) := by decide +kernel
theorem dJ11_lowSurrogate_5068e_9 : decode cJ11_lowSurrogate_5068e 9 = .ok (.ireturn, 1) := by decide +kernel
theorem dJ6_bitCount_0f7a4_0 : decode cJ6_bitCount_0f7a4 0 = .ok (.iload_n 0, 1) := by decide +kernel
theorem dJ6_bitCount_0f7a4_1 : decode cJ6_bitCount_0f7a4 1 = .ok (.iload_n 0, 1) := by decide +kernel
theorem dJ6_bitCount_0f7a4_2 : decode cJ6_bitCount_0f7a4 2 = .ok (.iconst 1, 1) := by decide +kernel
theorem dJ6_bitCount_0f7a4_3 : decode cJ6_bitCount_0f7a4 3 = .ok (.iushr, 1) := by decide +kernel
theorem dJ6_bitCount_0f7a4_4 : decode cJ6_bitCount_0f7a4 4 = .ok (.ldc_w 265, 3) := by decide +kernel
theorem dJ6_bitCount_0f7a4_7 : decode cJ6_bitCount_0f7a4 7 = .ok (.iand, 1) := by decide +kernel
theorem dJ6_bitCount_0f7a4_8 : decode cJ6_bitCount_0f7a4 8 = .ok (.isub, 1) := by decide +kernel
theorem dJ6_bitCount_0f7a4_9 : decode cJ6_bitCount_0f7a4 9 = .ok (.istore_n 0, 1) := by decide +kernel
theorem dJ6_bitCount_0f7a4_10 : decode cJ6_bitCount_0f7a4 10 = .ok (.iload_n 0, 1) := by decide +kernel
theorem dJ6_bitCount_0f7a4_11 : decode cJ6_bitCount_0f7a4 11 = .ok (.ldc_w 266, 3) := by decide +kernel
theorem dJ6_bitCount_0f7a4_14 : decode cJ6_bitCount_0f7a4 14 = .ok (.iand, 1) := by decide +kernel
theorem dJ6_bitCount_0f7a4_15 : decode cJ6_bitCount_0f7a4 15 = .ok (.iload_n 0, 1) := by decide +kernel
theorem dJ6_bitCount_0f7a4_16 : decode cJ6_bitCount_0f7a4 16 = .ok (.iconst 2, 1) := by decide +kernel
theorem dJ6_bitCount_0f7a4_17 : decode cJ6_bitCount_0f7a4 17 = .ok (.iushr, 1) := by decide +kernel
theorem dJ6_bitCount_0f7a4_18 : decode cJ6_bitCount_0f7a4 18 = .ok (.ldc_w 266, 3) := by decide +kernel
theorem dJ6_bitCount_0f7a4_21 : decode cJ6_bitCount_0f7a4 21 = .ok (.iand, 1) := by decide +kernel
theorem dJ6_bitCount_0f7a4_22 : decode cJ6_bitCount_0f7a4 22 = .ok (.iadd, 1) := by decide +kernel
theorem dJ6_bitCount_0f7a4_23 : decode cJ6_bitCount_0f7a4 23 = .ok (.istore_n 0, 1) := by decide +kernel
theorem dJ6_bitCount_0f7a4_24 : decode cJ6_bitCount_0f7a4 24 = .ok (.iload_n 0, 1) := by decide +kernel
theorem dJ6_bitCount_0f7a4_25 : decode cJ6_bitCount_0f7a4 25 = .ok (.iload_n 0, 1) := by decide +kernel
theorem dJ6_bitCount_0f7a4_26 : decode cJ6_bitCount_0f7a4 26 = .ok (.iconst 4, 1) := by decide +kernel
theorem dJ6_bitCount_0f7a4_27 : decode cJ6_bitCount_0f7a4 27 = .ok (.iushr, 1) := by decide +kernel
theorem dJ6_bitCount_0f7a4_28 : decode cJ6_bitCount_0f7a4 28 = .ok (.iadd, 1) := by decide +kernel
theorem dJ6_bitCount_0f7a4_29 : decode cJ6_bitCount_0f7a4 29 = .ok (.ldc_w 267, 3) := by decide +kernel
theorem dJ6_bitCount_0f7a4_32 : decode cJ6_bitCount_0f7a4 32 = .ok (.iand, 1) := by decide +kernel
theorem dJ6_bitCount_0f7a4_33 : decode cJ6_bitCount_0f7a4 33 = .ok (.istore_n 0, 1) := by decide +kernel
theorem dJ6_bitCount_0f7a4_34 : decode cJ6_bitCount_0f7a4 34 = .ok (.iload_n 0, 1) := by decide +kernel
theorem dJ6_bitCount_0f7a4_35 : decode cJ6_bitCount_0f7a4 35 = .ok (.iload_n 0, 1) := by decide +kernel
theorem dJ6_bitCount_0f7a4_36 : decode cJ6_bitCount_0f7a4 36 = .ok (.bipush 8, 2) := by decide +kernel
theorem dJ6_bitCount_0f7a4_38 : decode cJ6_bitCount_0f7a4 38 = .ok (.iushr, 1) := by decide +kernel
theorem dJ6_bitCount_0f7a4_39 : decode cJ6_bitCount_0f7a4 39 = .ok (.iadd, 1) := by decide +kernel
theorem dJ6_bitCount_0f7a4_40 : decode cJ6_bitCount_0f7a4 40 = .ok (.istore_n 0, 1) := by decide +kernel
theorem dJ6_bitCount_0f7a4_41 : decode cJ6_bitCount_0f7a4 41 = .ok (.iload_n 0, 1) := by decide +kernel
theorem dJ6_bitCount_0f7a4_42 : decode cJ6_bitCount_0f7a4 42 = .ok (.iload_n 0, 1) := by decide +kernel
theorem dJ6_bitCount_0f7a4_43 : decode cJ6_bitCount_0f7a4 43 = .ok (.bipush 16, 2) := by decide +kernel
theorem dJ6_bitCount_0f7a4_45 : decode cJ6_bitCount_0f7a4 45 = .ok (.iushr, 1) := by decide +kernel
theorem dJ6_bitCount_0f7a4_46 : decode cJ6_bitCount_0f7a4 46 = .ok (.iadd, 1) := by decide +kernel
theorem dJ6_bitCount_0f7a4_47 : decode cJ6_bitCount_0f7a4 47 = .ok (.istore_n 0, 1) := by decide +kernel
theorem dJ6_bitCount_0f7a4_48 : decode cJ6_bitCount_0f7a4 48 = .ok (.iload_n 0, 1) := by decide +kernel
theorem dJ6_bitCount_0f7a4_49 : decode cJ6_bitCount_0f7a4 49 = .ok (.bipush 63, 2) := by decide +kernel
theorem dJ6_bitCount_0f7a4_51 : decode cJ6_bitCount_0f7a4 51 = .ok (.iand, 1) := by decide +kernel
theorem dJ6_bitCount_0f7a4_52 : decode cJ6_bitCount_0f7a4 52 = .ok (.ireturn, 1) := by decide +kernel
theorem dJ9_abs_0f7a4_0 : decode cJ9_abs_0f7a4 0 = .ok (.iload_n 0, 1) := by decide +kernel
theorem dJ9_abs_0f7a4_1 : decode cJ9_abs_0f7a4 1 = .ok (.ifCond .ge 8, 3) := by decide +kernel
theorem dJ9_abs_0f7a4_4 : decode cJ9_abs_0f7a4 4 = .ok (.iload_n 0, 1) := by decide +kernel
theorem dJ9_abs_0f7a4_5 : decode cJ9_abs_0f7a4 5 = .ok (.ineg, 1) := by decide +kernel
theorem dJ9_abs_0f7a4_6 : decode cJ9_abs_0f7a4 6 = .ok (.goto 4, 3) := by decide +kernel
theorem dJ9_abs_0f7a4_9 : decode cJ9_abs_0f7a4 9 = .ok (.iload_n 0, 1) := by decide +kernel
theorem dJ9_abs_0f7a4_10 : decode cJ9_abs_0f7a4 10 = .ok (.ireturn, 1) := by decide +kernel
theorem dJ9_max_7cf53_0 : decode cJ9_max_7cf53 0 = .ok (.iload_n 0, 1) := by decide +kernel
theorem dJ9_max_7cf53_1 : decode cJ9_max_7cf53 1 = .ok (.iload_n 1, 1) := by decide +kernel
theorem dJ9_max_7cf53_2 : decode cJ9_max_7cf53 2 = .ok (.if_icmp .lt 7, 3) := by decide +kernel
theorem dJ9_max_7cf53_5 : decode cJ9_max_7cf53 5 = .ok (.iload_n 0, 1) := by decide +kernel
theorem dJ9_max_7cf53_6 : decode cJ9_max_7cf53 6 = .ok (.goto 4, 3) := by decide +kernel
theorem dJ9_max_7cf53_9 : decode cJ9_max_7cf53 9 = .ok (.iload_n 1, 1) := by decide +kernel
theorem dJ9_max_7cf53_10 : decode cJ9_max_7cf53 10 = .ok (.ireturn, 1) := by decide +kernel
theorem dJ9_min_7cf53_0 : decode cJ9_min_7cf53 0 = .ok (.iload_n 0, 1) := by decide +kernel
theorem dJ9_min_7cf53_1 : decode cJ9_min_7cf53 1 = .ok (.iload_n 1, 1) := by decide +kernel
theorem dJ9_min_7cf53_2 : decode cJ9_min_7cf53 2 = .ok (.if_icmp .gt 7, 3) := by decide +kernel
theorem dJ9_min_7cf53_5 : decode cJ9_min_7cf53 5 = .ok (.iload_n 0, 1) := by decide +kernel
theorem dJ9_min_7cf53_6 : decode cJ9_min_7cf53 6 = .ok (.goto 4, 3) := by decide +kernel
theorem dJ9_min_7cf53_9 : decode cJ9_min_7cf53 9 = .ok (.iload_n 1, 1) := by decide +kernel
theorem dJ9_min_7cf53_10 : decode cJ9_min_7cf53 10 = .ok (.ireturn, 1) := by decide +kernel
theorem dJ0_length_8abf5_0 : decode cJ0_length_8abf5 0 = .ok (.aload_n 0, 1) := by decide +kernel
theorem dJ0_length_8abf5_1 : decode cJ0_length_8abf5 1 = .ok (.getfield 9, 3) := by decide +kernel
theorem dJ0_length_8abf5_4 : decode cJ0_length_8abf5 4 = .ok (.arraylength, 1) := by decide +kernel
theorem dJ0_length_8abf5_5 : decode cJ0_length_8abf5 5 = .ok (.aload_n 0, 1) := by decide +kernel
theorem dJ0_length_8abf5_6 : decode cJ0_length_8abf5 6 = .ok (.invokevirtual 335, 3) := by decide +kernel
theorem dJ0_length_8abf5_9 : decode cJ0_length_8abf5 9 = .ok (.ishr, 1) := by decide +kernel
theorem dJ0_length_8abf5_10 : decode cJ0_length_8abf5 10 = .ok (.ireturn, 1) := by decide +kernel
theorem dJ0_indexOf_0f7a4_0 : decode cJ0_indexOf_0f7a4 0 = .ok (.aload_n 0, 1) := by decide +kernel
theorem dJ0_indexOf_0f7a4_1 : decode cJ0_indexOf_0f7a4 1 = .ok (.iload_n 1, 1) := by decide +kernel
theorem dJ0_indexOf_0f7a4_2 : decode cJ0_indexOf_0f7a4 2 = .ok (.iconst 0, 1) := by decide +kernel
theorem dJ0_indexOf_0f7a4_3 : decode cJ0_indexOf_0f7a4 3 = .ok (.invokevirtual 633, 3) := by decide +kernel
theorem dJ0_indexOf_0f7a4_6 : decode cJ0_indexOf_0f7a4 6 = .ok (.ireturn, 1) := by decide +kernel
theorem dJ0_indexOf_7cf53_0 : decode cJ0_indexOf_7cf53 0 = .ok (.aload_n 0, 1) := by decide +kernel
theorem dJ0_indexOf_7cf53_1 : decode cJ0_indexOf_7cf53 1 = .ok (.invokevirtual 492, 3) := by decide +kernel
theorem dJ0_indexOf_7cf53_4 : decode cJ0_indexOf_7cf53 4 = .ok (.ifCond .eq 19, 3) := by decide +kernel
theorem dJ0_indexOf_7cf53_7 : decode cJ0_indexOf_7cf53 7 = .ok (.aload_n 0, 1) := by decide +kernel
theorem dJ0_indexOf_7cf53_8 : decode cJ0_indexOf_7cf53 8 = .ok (.getfield 9, 3) := by decide +kernel
theorem dJ0_indexOf_7cf53_11 : decode cJ0_indexOf_7cf53 11 = .ok (.iload_n 1, 1) := by decide +kernel
theorem dJ0_indexOf_7cf53_12 : decode cJ0_indexOf_7cf53 12 = .ok (.iload_n 2, 1) := by decide +kernel
theorem dJ0_indexOf_7cf53_13 : decode cJ0_indexOf_7cf53 13 = .ok (.aload_n 0, 1) := by decide +kernel
theorem dJ0_indexOf_7cf53_14 : decode cJ0_indexOf_7cf53 14 = .ok (.invokevirtual 505, 3) := by decide +kernel
theorem dJ0_indexOf_7cf53_17 : decode cJ0_indexOf_7cf53 17 = .ok (.invokestatic 637, 3) := by decide +kernel
theorem dJ0_indexOf_7cf53_20 : decode cJ0_indexOf_7cf53 20 = .ok (.goto 16, 3) := by decide +kernel
theorem dJ0_indexOf_7cf53_23 : decode cJ0_indexOf_7cf53 23 = .ok (.aload_n 0, 1) := by decide +kernel
theorem dJ0_indexOf_7cf53_24 : decode cJ0_indexOf_7cf53 24 = .ok (.getfield 9, 3) := by decide +kernel
theorem dJ0_indexOf_7cf53_27 : decode cJ0_indexOf_7cf53 27 = .ok (.iload_n 1, 1) := by decide +kernel
theorem dJ0_indexOf_7cf53_28 : decode cJ0_indexOf_7cf53 28 = .ok (.iload_n 2, 1) := by decide +kernel
theorem dJ0_indexOf_7cf53_29 : decode cJ0_indexOf_7cf53 29 = .ok (.aload_n 0, 1) := by decide +kernel
theorem dJ0_indexOf_7cf53_30 : decode cJ0_indexOf_7cf53 30 = .ok (.invokevirtual 505, 3) := by decide +kernel
theorem dJ0_indexOf_7cf53_33 : decode cJ0_indexOf_7cf53 33 = .ok (.invokestatic 640, 3) := by decide +kernel
theorem dJ0_indexOf_7cf53_36 : decode cJ0_indexOf_7cf53 36 = .ok (.ireturn, 1) := by decide +kernel
theorem dJ0_coder_7d493_0 : decode cJ0_coder_7d493 0 = .ok (.getstatic 38, 3) := by decide +kernel
theorem dJ0_coder_7d493_3 : decode cJ0_coder_7d493 3 = .ok (.ifCond .eq 10, 3) := by decide +kernel
theorem dJ0_coder_7d493_6 : decode cJ0_coder_7d493 6 = .ok (.aload_n 0, 1) := by decide +kernel
theorem dJ0_coder_7d493_7 : decode cJ0_coder_7d493 7 = .ok (.getfield 15, 3) := by decide +kernel
theorem dJ0_coder_7d493_10 : decode cJ0_coder_7d493 10 = .ok (.goto 4, 3) := by decide +kernel
theorem dJ0_coder_7d493_13 : decode cJ0_coder_7d493 13 = .ok (.iconst 1, 1) := by decide +kernel
theorem dJ0_coder_7d493_14 : decode cJ0_coder_7d493 14 = .ok (.ireturn, 1) := by decide +kernel
theorem dJ0_isLatin1_aae02_0 : decode cJ0_isLatin1_aae02 0 = .ok (.getstatic 38, 3) := by decide +kernel
theorem dJ0_isLatin1_aae02_3 : decode cJ0_isLatin1_aae02 3 = .ok (.ifCond .eq 14, 3) := by decide +kernel
theorem dJ0_isLatin1_aae02_6 : decode cJ0_isLatin1_aae02 6 = .ok (.aload_n 0, 1) := by decide +kernel
theorem dJ0_isLatin1_aae02_7 : decode cJ0_isLatin1_aae02 7 = .ok (.getfield 15, 3) := by decide +kernel
theorem dJ0_isLatin1_aae02_10 : decode cJ0_isLatin1_aae02 10 = .ok (.ifCond .ne 7, 3) := by decide +kernel
theorem dJ0_isLatin1_aae02_13 : decode cJ0_isLatin1_aae02 13 = .ok (.iconst 1, 1) := by decide +kernel
theorem dJ0_isLatin1_aae02_14 : decode cJ0_isLatin1_aae02 14 = .ok (.goto 4, 3) := by decide +kernel
theorem dJ0_isLatin1_aae02_17 : decode cJ0_isLatin1_aae02 17 = .ok (.iconst 0, 1) := by decide +kernel
theorem dJ0_isLatin1_aae02_18 : decode cJ0_isLatin1_aae02 18 = .ok (.ireturn, 1) := by decide +kernel
theorem dJ0_checkBoundsBeginEnd_23922_0 : decode cJ0_checkBoundsBeginEnd_23922 0 = .ok (.iload_n 0, 1) := by decide +kernel
theorem dJ0_checkBoundsBeginEnd_23922_1 : decode cJ0_checkBoundsBeginEnd_23922 1 = .ok (.iload_n 1, 1) := by decide +kernel
theorem dJ0_checkBoundsBeginEnd_23922_2 : decode cJ0_checkBoundsBeginEnd_23922 2 = .ok (.iload_n 2, 1) := by decide +kernel
theorem dJ0_checkBoundsBeginEnd_23922_3 : decode cJ0_checkBoundsBeginEnd_23922 3 = .ok (.getstatic 1053, 3) := by decide +kernel
theorem dJ0_checkBoundsBeginEnd_23922_6 : decode cJ0_checkBoundsBeginEnd_23922 6 = .ok (.invokestatic 1062, 3) := by decide +kernel
theorem dJ0_checkBoundsBeginEnd_23922_9 : decode cJ0_checkBoundsBeginEnd_23922 9 = .ok (.pop, 1) := by decide +kernel
theorem dJ0_checkBoundsBeginEnd_23922_10 : decode cJ0_checkBoundsBeginEnd_23922 10 = .ok (.return_, 1) := by decide +kernel
theorem dJ1_canEncode_9a6ad_0 : decode cJ1_canEncode_9a6ad 0 = .ok (.iload_n 0, 1) := by decide +kernel
theorem dJ1_canEncode_9a6ad_1 : decode cJ1_canEncode_9a6ad 1 = .ok (.ifCond .lt 14, 3) := by decide +kernel
theorem dJ1_canEncode_9a6ad_4 : decode cJ1_canEncode_9a6ad 4 = .ok (.iload_n 0, 1) := by decide +kernel
theorem dJ1_canEncode_9a6ad_5 : decode cJ1_canEncode_9a6ad 5 = .ok (.sipush 255, 3) := by decide +kernel
theorem dJ1_canEncode_9a6ad_8 : decode cJ1_canEncode_9a6ad 8 = .ok (.if_icmp .gt 7, 3) := by decide +kernel
theorem dJ1_canEncode_9a6ad_11 : decode cJ1_canEncode_9a6ad 11 = .ok (.iconst 1, 1) := by decide +kernel
theorem dJ1_canEncode_9a6ad_12 : decode cJ1_canEncode_9a6ad 12 = .ok (.goto 4, 3) := by decide +kernel
theorem dJ1_canEncode_9a6ad_15 : decode cJ1_canEncode_9a6ad 15 = .ok (.iconst 0, 1) := by decide +kernel
theorem dJ1_canEncode_9a6ad_16 : decode cJ1_canEncode_9a6ad 16 = .ok (.ireturn, 1) := by decide +kernel
theorem dJ1_indexOf_4cfef_0 : decode cJ1_indexOf_4cfef 0 = .ok (.iload_n 1, 1) := by decide +kernel
theorem dJ1_indexOf_4cfef_1 : decode cJ1_indexOf_4cfef 1 = .ok (.invokestatic 88, 3) := by decide +kernel
theorem dJ1_indexOf_4cfef_4 : decode cJ1_indexOf_4cfef 4 = .ok (.ifCond .ne 5, 3) := by decide +kernel
theorem dJ1_indexOf_4cfef_7 : decode cJ1_indexOf_4cfef 7 = .ok (.iconst (-1), 1) := by decide +kernel
theorem dJ1_indexOf_4cfef_8 : decode cJ1_indexOf_4cfef 8 = .ok (.ireturn, 1) := by decide +kernel
theorem dJ1_indexOf_4cfef_9 : decode cJ1_indexOf_4cfef 9 = .ok (.iload_n 2, 1) := by decide +kernel
theorem dJ1_indexOf_4cfef_10 : decode cJ1_indexOf_4cfef 10 = .ok (.iconst 0, 1) := by decide +kernel
theorem dJ1_indexOf_4cfef_11 : decode cJ1_indexOf_4cfef 11 = .ok (.invokestatic 92, 3) := by decide +kernel
theorem dJ1_indexOf_4cfef_14 : decode cJ1_indexOf_4cfef 14 = .ok (.istore_n 2, 1) := by decide +kernel
theorem dJ1_indexOf_4cfef_15 : decode cJ1_indexOf_4cfef 15 = .ok (.iload_n 3, 1) := by decide +kernel
theorem dJ1_indexOf_4cfef_16 : decode cJ1_indexOf_4cfef 16 = .ok (.aload_n 0, 1) := by decide +kernel
theorem dJ1_indexOf_4cfef_17 : decode cJ1_indexOf_4cfef 17 = .ok (.arraylength, 1) := by decide +kernel
theorem dJ1_indexOf_4cfef_18 : decode cJ1_indexOf_4cfef 18 = .ok (.invokestatic 38, 3) := by decide +kernel
theorem dJ1_indexOf_4cfef_21 : decode cJ1_indexOf_4cfef 21 = .ok (.istore_n 3, 1) := by decide +kernel
theorem dJ1_indexOf_4cfef_22 : decode cJ1_indexOf_4cfef 22 = .ok (.iload_n 2, 1) := by decide +kernel
theorem dJ1_indexOf_4cfef_23 : decode cJ1_indexOf_4cfef 23 = .ok (.iload_n 3, 1) := by decide +kernel
theorem dJ1_indexOf_4cfef_24 : decode cJ1_indexOf_4cfef 24 = .ok (.if_icmp .lt 5, 3) := by decide +kernel
theorem dJ1_indexOf_4cfef_27 : decode cJ1_indexOf_4cfef 27 = .ok (.iconst (-1), 1) := by decide +kernel
theorem dJ1_indexOf_4cfef_28 : decode cJ1_indexOf_4cfef 28 = .ok (.ireturn, 1) := by decide +kernel
theorem dJ1_indexOf_4cfef_29 : decode cJ1_indexOf_4cfef 29 = .ok (.aload_n 0, 1) := by decide +kernel
theorem dJ1_indexOf_4cfef_30 : decode cJ1_indexOf_4cfef 30 = .ok (.iload_n 1, 1) := by decide +kernel
theorem dJ1_indexOf_4cfef_31 : decode cJ1_indexOf_4cfef 31 = .ok (.iload_n 2, 1) := by decide +kernel
theorem dJ1_indexOf_4cfef_32 : decode cJ1_indexOf_4cfef 32 = .ok (.iload_n 3, 1) := by decide +kernel
theorem dJ1_indexOf_4cfef_33 : decode cJ1_indexOf_4cfef 33 = .ok (.invokestatic 95, 3) := by decide +kernel
theorem dJ1_indexOf_4cfef_36 : decode cJ1_indexOf_4cfef 36 = .ok (.ireturn, 1) := by decide +kernel
theorem dJ1_indexOfChar_4cfef_0 : decode cJ1_indexOfChar_4cfef 0 = .ok (.iload_n 1, 1) := by decide +kernel
theorem dJ1_indexOfChar_4cfef_1 : decode cJ1_indexOfChar_4cfef 1 = .ok (.i2b, 1) := by decide +kernel
theorem dJ1_indexOfChar_4cfef_2 : decode cJ1_indexOfChar_4cfef 2 = .ok (.istore 4, 2) := by decide +kernel
theorem dJ1_indexOfChar_4cfef_4 : decode cJ1_indexOfChar_4cfef 4 = .ok (.iload_n 2, 1) := by decide +kernel
theorem dJ1_indexOfChar_4cfef_5 : decode cJ1_indexOfChar_4cfef 5 = .ok (.istore 5, 2) := by decide +kernel
theorem dJ1_indexOfChar_4cfef_7 : decode cJ1_indexOfChar_4cfef 7 = .ok (.iload 5, 2) := by decide +kernel
theorem dJ1_indexOfChar_4cfef_9 : decode cJ1_indexOfChar_4cfef 9 = .ok (.iload_n 3, 1) := by decide +kernel
theorem dJ1_indexOfChar_4cfef_10 : decode cJ1_indexOfChar_4cfef 10 = .ok (.if_icmp .ge 21, 3) := by decide +kernel
theorem dJ1_indexOfChar_4cfef_13 : decode cJ1_indexOfChar_4cfef 13 = .ok (.aload_n 0, 1) := by decide +kernel
theorem dJ1_indexOfChar_4cfef_14 : decode cJ1_indexOfChar_4cfef 14 = .ok (.iload 5, 2) := by decide +kernel
theorem dJ1_indexOfChar_4cfef_16 : decode cJ1_indexOfChar_4cfef 16 = .ok (.baload, 1) := by decide +kernel
theorem dJ1_indexOfChar_4cfef_17 : decode cJ1_indexOfChar_4cfef 17 = .ok (.iload 4, 2) := by decide +kernel
theorem dJ1_indexOfChar_4cfef_19 : decode cJ1_indexOfChar_4cfef 19 = .ok (.if_icmp .ne 6, 3) := by decide +kernel
theorem dJ1_indexOfChar_4cfef_22 : decode cJ1_indexOfChar_4cfef 22 = .ok (.iload 5, 2) := by decide +kernel
theorem dJ1_indexOfChar_4cfef_24 : decode cJ1_indexOfChar_4cfef 24 = .ok (.ireturn, 1) := by decide +kernel
theorem dJ1_indexOfChar_4cfef_25 : decode cJ1_indexOfChar_4cfef 25 = .ok (.iinc 5 1, 3) := by decide +kernel
theorem dJ1_indexOfChar_4cfef_28 : decode cJ1_indexOfChar_4cfef 28 = .ok (.goto (-21), 3) := by decide +kernel
theorem dJ1_indexOfChar_4cfef_31 : decode cJ1_indexOfChar_4cfef 31 = .ok (.iconst (-1), 1) := by decide +kernel
theorem dJ1_indexOfChar_4cfef_32 : decode cJ1_indexOfChar_4cfef 32 = .ok (.ireturn, 1) := by decide +kernel
theorem dJ2_getChar_3b067_0 : decode cJ2_getChar_3b067 0 = .ok (.getstatic 44, 3) := by decide +kernel
theorem dJ2_getChar_3b067_3 : decode cJ2_getChar_3b067 3 = .ok (.ifCond .ne 25, 3) := by decide +kernel
theorem dJ2_getChar_3b067_6 : decode cJ2_getChar_3b067 6 = .ok (.iload_n 1, 1) := by decide +kernel
theorem dJ2_getChar_3b067_7 : decode cJ2_getChar_3b067 7 = .ok (.ifCond .lt 11, 3) := by decide +kernel
theorem dJ2_getChar_3b067_10 : decode cJ2_getChar_3b067 10 = .ok (.iload_n 1, 1) := by decide +kernel
theorem dJ2_getChar_3b067_11 : decode cJ2_getChar_3b067 11 = .ok (.aload_n 0, 1) := by decide +kernel
theorem dJ2_getChar_3b067_12 : decode cJ2_getChar_3b067 12 = .ok (.invokestatic 48, 3) := by decide +kernel
theorem dJ2_getChar_3b067_15 : decode cJ2_getChar_3b067 15 = .ok (.if_icmp .lt 13, 3) := by decide +kernel
theorem dJ2_getChar_3b067_18 : decode cJ2_getChar_3b067 18 = .ok (.new 52, 3) := by decide +kernel
theorem dJ2_getChar_3b067_21 : decode cJ2_getChar_3b067 21 = .ok (.dup, 1) := by decide +kernel
theorem dJ2_getChar_3b067_22 : decode cJ2_getChar_3b067 22 = .ok (.ldc 54, 2) := by decide +kernel
theorem dJ2_getChar_3b067_24 : decode cJ2_getChar_3b067 24 = .ok (.invokespecial 56, 3) := by decide +kernel
theorem dJ2_getChar_3b067_27 : decode cJ2_getChar_3b067 27 = .ok (.athrow, 1) := by decide +kernel
theorem dJ2_getChar_3b067_28 : decode cJ2_getChar_3b067 28 = .ok (.iload_n 1, 1) := by decide +kernel
theorem dJ2_getChar_3b067_29 : decode cJ2_getChar_3b067 29 = .ok (.iconst 1, 1) := by decide +kernel
theorem dJ2_getChar_3b067_30 : decode cJ2_getChar_3b067 30 = .ok (.ishl, 1) := by decide +kernel
theorem dJ2_getChar_3b067_31 : decode cJ2_getChar_3b067 31 = .ok (.istore_n 1, 1) := by decide +kernel
theorem dJ2_getChar_3b067_32 : decode cJ2_getChar_3b067 32 = .ok (.aload_n 0, 1) := by decide +kernel
theorem dJ2_getChar_3b067_33 : decode cJ2_getChar_3b067 33 = .ok (.iload_n 1, 1) := by decide +kernel
theorem dJ2_getChar_3b067_34 : decode cJ2_getChar_3b067 34 = .ok (.iinc 1 1, 3) := by decide +kernel
theorem dJ2_getChar_3b067_37 : decode cJ2_getChar_3b067 37 = .ok (.baload, 1) := by decide +kernel
theorem dJ2_getChar_3b067_38 : decode cJ2_getChar_3b067 38 = .ok (.sipush 255, 3) := by decide +kernel
theorem dJ2_getChar_3b067_41 : decode cJ2_getChar_3b067 41 = .ok (.iand, 1) := by decide +kernel
theorem dJ2_getChar_3b067_42 : decode cJ2_getChar_3b067 42 = .ok (.getstatic 59, 3) := by decide +kernel
theorem dJ2_getChar_3b067_45 : decode cJ2_getChar_3b067 45 = .ok (.ishl, 1) := by decide +kernel
theorem dJ2_getChar_3b067_46 : decode cJ2_getChar_3b067 46 = .ok (.aload_n 0, 1) := by decide +kernel
theorem dJ2_getChar_3b067_47 : decode cJ2_getChar_3b067 47 = .ok (.iload_n 1, 1) := by decide +kernel
theorem dJ2_getChar_3b067_48 : decode cJ2_getChar_3b067 48 = .ok (.baload, 1) := by decide +kernel
theorem dJ2_getChar_3b067_49 : decode cJ2_getChar_3b067 49 = .ok (.sipush 255, 3) := by decide +kernel
theorem dJ2_getChar_3b067_52 : decode cJ2_getChar_3b067 52 = .ok (.iand, 1) := by decide +kernel
theorem dJ2_getChar_3b067_53 : decode cJ2_getChar_3b067 53 = .ok (.getstatic 63, 3) := by decide +kernel
theorem dJ2_getChar_3b067_56 : decode cJ2_getChar_3b067 56 = .ok (.ishl, 1) := by decide +kernel
theorem dJ2_getChar_3b067_57 : decode cJ2_getChar_3b067 57 = .ok (.ior, 1) := by decide +kernel
theorem dJ2_getChar_3b067_58 : decode cJ2_getChar_3b067 58 = .ok (.i2c, 1) := by decide +kernel
theorem dJ2_getChar_3b067_59 : decode cJ2_getChar_3b067 59 = .ok (.ireturn, 1) := by decide +kernel
theorem dJ2_length_9d52b_0 : decode cJ2_length_9d52b 0 = .ok (.aload_n 0, 1) := by decide +kernel
theorem dJ2_length_9d52b_1 : decode cJ2_length_9d52b 1 = .ok (.arraylength, 1) := by decide +kernel
theorem dJ2_length_9d52b_2 : decode cJ2_length_9d52b 2 = .ok (.iconst 1, 1) := by decide +kernel
theorem dJ2_length_9d52b_3 : decode cJ2_length_9d52b 3 = .ok (.ishr, 1) := by decide +kernel
theorem dJ2_length_9d52b_4 : decode cJ2_length_9d52b 4 = .ok (.ireturn, 1) := by decide +kernel
theorem dJ2_indexOf_4cfef_0 : decode cJ2_indexOf_4cfef 0 = .ok (.iload_n 2, 1) := by decide +kernel
theorem dJ2_indexOf_4cfef_1 : decode cJ2_indexOf_4cfef 1 = .ok (.iconst 0, 1) := by decide +kernel
theorem dJ2_indexOf_4cfef_2 : decode cJ2_indexOf_4cfef 2 = .ok (.invokestatic 224, 3) := by decide +kernel
theorem dJ2_indexOf_4cfef_5 : decode cJ2_indexOf_4cfef 5 = .ok (.istore_n 2, 1) := by decide +kernel
theorem dJ2_indexOf_4cfef_6 : decode cJ2_indexOf_4cfef 6 = .ok (.iload_n 3, 1) := by decide +kernel
theorem dJ2_indexOf_4cfef_7 : decode cJ2_indexOf_4cfef 7 = .ok (.aload_n 0, 1) := by decide +kernel
theorem dJ2_indexOf_4cfef_8 : decode cJ2_indexOf_4cfef 8 = .ok (.arraylength, 1) := by decide +kernel
theorem dJ2_indexOf_4cfef_9 : decode cJ2_indexOf_4cfef 9 = .ok (.iconst 1, 1) := by decide +kernel
theorem dJ2_indexOf_4cfef_10 : decode cJ2_indexOf_4cfef 10 = .ok (.ishr, 1) := by decide +kernel
theorem dJ2_indexOf_4cfef_11 : decode cJ2_indexOf_4cfef 11 = .ok (.invokestatic 183, 3) := by decide +kernel
theorem dJ2_indexOf_4cfef_14 : decode cJ2_indexOf_4cfef 14 = .ok (.istore_n 3, 1) := by decide +kernel
theorem dJ2_indexOf_4cfef_15 : decode cJ2_indexOf_4cfef 15 = .ok (.iload_n 2, 1) := by decide +kernel
theorem dJ2_indexOf_4cfef_16 : decode cJ2_indexOf_4cfef 16 = .ok (.iload_n 3, 1) := by decide +kernel
theorem dJ2_indexOf_4cfef_17 : decode cJ2_indexOf_4cfef 17 = .ok (.if_icmp .lt 5, 3) := by decide +kernel
theorem dJ2_indexOf_4cfef_20 : decode cJ2_indexOf_4cfef 20 = .ok (.iconst (-1), 1) := by decide +kernel
theorem dJ2_indexOf_4cfef_21 : decode cJ2_indexOf_4cfef 21 = .ok (.ireturn, 1) := by decide +kernel
theorem dJ2_indexOf_4cfef_22 : decode cJ2_indexOf_4cfef 22 = .ok (.iload_n 1, 1) := by decide +kernel
theorem dJ2_indexOf_4cfef_23 : decode cJ2_indexOf_4cfef 23 = .ok (.ldc 227, 2) := by decide +kernel
theorem dJ2_indexOf_4cfef_25 : decode cJ2_indexOf_4cfef 25 = .ok (.if_icmp .ge 11, 3) := by decide +kernel
theorem dJ2_indexOf_4cfef_28 : decode cJ2_indexOf_4cfef 28 = .ok (.aload_n 0, 1) := by decide +kernel
theorem dJ2_indexOf_4cfef_29 : decode cJ2_indexOf_4cfef 29 = .ok (.iload_n 1, 1) := by decide +kernel
theorem dJ2_indexOf_4cfef_30 : decode cJ2_indexOf_4cfef 30 = .ok (.iload_n 2, 1) := by decide +kernel
theorem dJ2_indexOf_4cfef_31 : decode cJ2_indexOf_4cfef 31 = .ok (.iload_n 3, 1) := by decide +kernel
theorem dJ2_indexOf_4cfef_32 : decode cJ2_indexOf_4cfef 32 = .ok (.invokestatic 228, 3) := by decide +kernel
theorem dJ2_indexOf_4cfef_35 : decode cJ2_indexOf_4cfef 35 = .ok (.ireturn, 1) := by decide +kernel
theorem dJ2_indexOf_4cfef_36 : decode cJ2_indexOf_4cfef 36 = .ok (.aload_n 0, 1) := by decide +kernel
theorem dJ2_indexOf_4cfef_37 : decode cJ2_indexOf_4cfef 37 = .ok (.iload_n 1, 1) := by decide +kernel
theorem dJ2_indexOf_4cfef_38 : decode cJ2_indexOf_4cfef 38 = .ok (.iload_n 2, 1) := by decide +kernel
theorem dJ2_indexOf_4cfef_39 : decode cJ2_indexOf_4cfef 39 = .ok (.iload_n 3, 1) := by decide +kernel
theorem dJ2_indexOf_4cfef_40 : decode cJ2_indexOf_4cfef 40 = .ok (.invokestatic 232, 3) := by decide +kernel
theorem dJ2_indexOf_4cfef_43 : decode cJ2_indexOf_4cfef 43 = .ok (.ireturn, 1) := by decide +kernel
theorem dJ2_indexOfChar_4cfef_0 : decode cJ2_indexOfChar_4cfef 0 = .ok (.iload_n 2, 1) := by decide +kernel
theorem dJ2_indexOfChar_4cfef_1 : decode cJ2_indexOfChar_4cfef 1 = .ok (.iload_n 3, 1) := by decide +kernel
theorem dJ2_indexOfChar_4cfef_2 : decode cJ2_indexOfChar_4cfef 2 = .ok (.aload_n 0, 1) := by decide +kernel
theorem dJ2_indexOfChar_4cfef_3 : decode cJ2_indexOfChar_4cfef 3 = .ok (.invokestatic 96, 3) := by decide +kernel
theorem dJ2_indexOfChar_4cfef_6 : decode cJ2_indexOfChar_4cfef 6 = .ok (.aload_n 0, 1) := by decide +kernel
theorem dJ2_indexOfChar_4cfef_7 : decode cJ2_indexOfChar_4cfef 7 = .ok (.iload_n 1, 1) := by decide +kernel
theorem dJ2_indexOfChar_4cfef_8 : decode cJ2_indexOfChar_4cfef 8 = .ok (.iload_n 2, 1) := by decide +kernel
theorem dJ2_indexOfChar_4cfef_9 : decode cJ2_indexOfChar_4cfef 9 = .ok (.iload_n 3, 1) := by decide +kernel
theorem dJ2_indexOfChar_4cfef_10 : decode cJ2_indexOfChar_4cfef 10 = .ok (.invokestatic 244, 3) := by decide +kernel
theorem dJ2_indexOfChar_4cfef_13 : decode cJ2_indexOfChar_4cfef 13 = .ok (.ireturn, 1) := by decide +kernel
theorem dJ2_indexOfCharUnsafe_4cfef_0 : decode cJ2_indexOfCharUnsafe_4cfef 0 = .ok (.iload_n 2, 1) := by decide +kernel
theorem dJ2_indexOfCharUnsafe_4cfef_1 : decode cJ2_indexOfCharUnsafe_4cfef 1 = .ok (.istore 4, 2) := by decide +kernel
theorem dJ2_indexOfCharUnsafe_4cfef_3 : decode cJ2_indexOfCharUnsafe_4cfef 3 = .ok (.iload 4, 2) := by decide +kernel
theorem dJ2_indexOfCharUnsafe_4cfef_5 : decode cJ2_indexOfCharUnsafe_4cfef 5 = .ok (.iload_n 3, 1) := by decide +kernel
theorem dJ2_indexOfCharUnsafe_4cfef_6 : decode cJ2_indexOfCharUnsafe_4cfef 6 = .ok (.if_icmp .ge 22, 3) := by decide +kernel
theorem dJ2_indexOfCharUnsafe_4cfef_9 : decode cJ2_indexOfCharUnsafe_4cfef 9 = .ok (.aload_n 0, 1) := by decide +kernel
theorem dJ2_indexOfCharUnsafe_4cfef_10 : decode cJ2_indexOfCharUnsafe_4cfef 10 = .ok (.iload 4, 2) := by decide +kernel
theorem dJ2_indexOfCharUnsafe_4cfef_12 : decode cJ2_indexOfCharUnsafe_4cfef 12 = .ok (.invokestatic 71, 3) := by decide +kernel
theorem dJ2_indexOfCharUnsafe_4cfef_15 : decode cJ2_indexOfCharUnsafe_4cfef 15 = .ok (.iload_n 1, 1) := by decide +kernel
theorem dJ2_indexOfCharUnsafe_4cfef_16 : decode cJ2_indexOfCharUnsafe_4cfef 16 = .ok (.if_icmp .ne 6, 3) := by decide +kernel
theorem dJ2_indexOfCharUnsafe_4cfef_19 : decode cJ2_indexOfCharUnsafe_4cfef 19 = .ok (.iload 4, 2) := by decide +kernel
theorem dJ2_indexOfCharUnsafe_4cfef_21 : decode cJ2_indexOfCharUnsafe_4cfef 21 = .ok (.ireturn, 1) := by decide +kernel
theorem dJ2_indexOfCharUnsafe_4cfef_22 : decode cJ2_indexOfCharUnsafe_4cfef 22 = .ok (.iinc 4 1, 3) := by decide +kernel
theorem dJ2_indexOfCharUnsafe_4cfef_25 : decode cJ2_indexOfCharUnsafe_4cfef 25 = .ok (.goto (-22), 3) := by decide +kernel
theorem dJ2_indexOfCharUnsafe_4cfef_28 : decode cJ2_indexOfCharUnsafe_4cfef 28 = .ok (.iconst (-1), 1) := by decide +kernel
theorem dJ2_indexOfCharUnsafe_4cfef_29 : decode cJ2_indexOfCharUnsafe_4cfef 29 = .ok (.ireturn, 1) := by decide +kernel
theorem dJ2_indexOfSupplementary_4cfef_0 : decode cJ2_indexOfSupplementary_4cfef 0 = .ok (.iload_n 1, 1) := by decide +kernel
theorem dJ2_indexOfSupplementary_4cfef_1 : decode cJ2_indexOfSupplementary_4cfef 1 = .ok (.invokestatic 164, 3) := by decide +kernel
theorem dJ2_indexOfSupplementary_4cfef_4 : decode cJ2_indexOfSupplementary_4cfef 4 = .ok (.ifCond .eq 65, 3) := by decide +kernel
theorem dJ2_indexOfSupplementary_4cfef_7 : decode cJ2_indexOfSupplementary_4cfef 7 = .ok (.iload_n 1, 1) := by decide +kernel
theorem dJ2_indexOfSupplementary_4cfef_8 : decode cJ2_indexOfSupplementary_4cfef 8 = .ok (.invokestatic 157, 3) := by decide +kernel
theorem dJ2_indexOfSupplementary_4cfef_11 : decode cJ2_indexOfSupplementary_4cfef 11 = .ok (.istore 4, 2) := by decide +kernel
theorem dJ2_indexOfSupplementary_4cfef_13 : decode cJ2_indexOfSupplementary_4cfef 13 = .ok (.iload_n 1, 1) := by decide +kernel
theorem dJ2_indexOfSupplementary_4cfef_14 : decode cJ2_indexOfSupplementary_4cfef 14 = .ok (.invokestatic 161, 3) := by decide +kernel
theorem dJ2_indexOfSupplementary_4cfef_17 : decode cJ2_indexOfSupplementary_4cfef 17 = .ok (.istore 5, 2) := by decide +kernel
theorem dJ2_indexOfSupplementary_4cfef_19 : decode cJ2_indexOfSupplementary_4cfef 19 = .ok (.iload_n 2, 1) := by decide +kernel
theorem dJ2_indexOfSupplementary_4cfef_20 : decode cJ2_indexOfSupplementary_4cfef 20 = .ok (.iload_n 3, 1) := by decide +kernel
theorem dJ2_indexOfSupplementary_4cfef_21 : decode cJ2_indexOfSupplementary_4cfef 21 = .ok (.aload_n 0, 1) := by decide +kernel
theorem dJ2_indexOfSupplementary_4cfef_22 : decode cJ2_indexOfSupplementary_4cfef 22 = .ok (.invokestatic 96, 3) := by decide +kernel
theorem dJ2_indexOfSupplementary_4cfef_25 : decode cJ2_indexOfSupplementary_4cfef 25 = .ok (.iload_n 2, 1) := by decide +kernel
theorem dJ2_indexOfSupplementary_4cfef_26 : decode cJ2_indexOfSupplementary_4cfef 26 = .ok (.istore 6, 2) := by decide +kernel
theorem dJ2_indexOfSupplementary_4cfef_28 : decode cJ2_indexOfSupplementary_4cfef 28 = .ok (.iload 6, 2) := by decide +kernel
theorem dJ2_indexOfSupplementary_4cfef_30 : decode cJ2_indexOfSupplementary_4cfef 30 = .ok (.iload_n 3, 1) := by decide +kernel
theorem dJ2_indexOfSupplementary_4cfef_31 : decode cJ2_indexOfSupplementary_4cfef 31 = .ok (.iconst 1, 1) := by decide +kernel
theorem dJ2_indexOfSupplementary_4cfef_32 : decode cJ2_indexOfSupplementary_4cfef 32 = .ok (.isub, 1) := by decide +kernel
theorem dJ2_indexOfSupplementary_4cfef_33 : decode cJ2_indexOfSupplementary_4cfef 33 = .ok (.if_icmp .ge 36, 3) := by decide +kernel
theorem dJ2_indexOfSupplementary_4cfef_36 : decode cJ2_indexOfSupplementary_4cfef 36 = .ok (.aload_n 0, 1) := by decide +kernel
theorem dJ2_indexOfSupplementary_4cfef_37 : decode cJ2_indexOfSupplementary_4cfef 37 = .ok (.iload 6, 2) := by decide +kernel
theorem dJ2_indexOfSupplementary_4cfef_39 : decode cJ2_indexOfSupplementary_4cfef 39 = .ok (.invokestatic 71, 3) := by decide +kernel
theorem dJ2_indexOfSupplementary_4cfef_42 : decode cJ2_indexOfSupplementary_4cfef 42 = .ok (.iload 4, 2) := by decide +kernel
theorem dJ2_indexOfSupplementary_4cfef_44 : decode cJ2_indexOfSupplementary_4cfef 44 = .ok (.if_icmp .ne 19, 3) := by decide +kernel
theorem dJ2_indexOfSupplementary_4cfef_47 : decode cJ2_indexOfSupplementary_4cfef 47 = .ok (.aload_n 0, 1) := by decide +kernel
theorem dJ2_indexOfSupplementary_4cfef_48 : decode cJ2_indexOfSupplementary_4cfef 48 = .ok (.iload 6, 2) := by decide +kernel
theorem dJ2_indexOfSupplementary_4cfef_50 : decode cJ2_indexOfSupplementary_4cfef 50 = .ok (.iconst 1, 1) := by decide +kernel
theorem dJ2_indexOfSupplementary_4cfef_51 : decode cJ2_indexOfSupplementary_4cfef 51 = .ok (.iadd, 1) := by decide +kernel
theorem dJ2_indexOfSupplementary_4cfef_52 : decode cJ2_indexOfSupplementary_4cfef 52 = .ok (.invokestatic 71, 3) := by decide +kernel
theorem dJ2_indexOfSupplementary_4cfef_55 : decode cJ2_indexOfSupplementary_4cfef 55 = .ok (.iload 5, 2) := by decide +kernel
theorem dJ2_indexOfSupplementary_4cfef_57 : decode cJ2_indexOfSupplementary_4cfef 57 = .ok (.if_icmp .ne 6, 3) := by decide +kernel
theorem dJ2_indexOfSupplementary_4cfef_60 : decode cJ2_indexOfSupplementary_4cfef 60 = .ok (.iload 6, 2) := by decide +kernel
theorem dJ2_indexOfSupplementary_4cfef_62 : decode cJ2_indexOfSupplementary_4cfef 62 = .ok (.ireturn, 1) := by decide +kernel
theorem dJ2_indexOfSupplementary_4cfef_63 : decode cJ2_indexOfSupplementary_4cfef 63 = .ok (.iinc 6 1, 3) := by decide +kernel
theorem dJ2_indexOfSupplementary_4cfef_66 : decode cJ2_indexOfSupplementary_4cfef 66 = .ok (.goto (-38), 3) := by decide +kernel
theorem dJ2_indexOfSupplementary_4cfef_69 : decode cJ2_indexOfSupplementary_4cfef 69 = .ok (.iconst (-1), 1) := by decide +kernel
theorem dJ2_indexOfSupplementary_4cfef_70 : decode cJ2_indexOfSupplementary_4cfef 70 = .ok (.ireturn, 1) := by decide +kernel
theorem dJ2_checkBoundsBeginEnd_d044e_0 : decode cJ2_checkBoundsBeginEnd_d044e 0 = .ok (.iload_n 0, 1) := by decide +kernel
theorem dJ2_checkBoundsBeginEnd_d044e_1 : decode cJ2_checkBoundsBeginEnd_d044e 1 = .ok (.iload_n 1, 1) := by decide +kernel
theorem dJ2_checkBoundsBeginEnd_d044e_2 : decode cJ2_checkBoundsBeginEnd_d044e 2 = .ok (.aload_n 2, 1) := by decide +kernel
theorem dJ2_checkBoundsBeginEnd_d044e_3 : decode cJ2_checkBoundsBeginEnd_d044e 3 = .ok (.invokestatic 48, 3) := by decide +kernel
theorem dJ2_checkBoundsBeginEnd_d044e_6 : decode cJ2_checkBoundsBeginEnd_d044e 6 = .ok (.invokestatic 241, 3) := by decide +kernel
theorem dJ2_checkBoundsBeginEnd_d044e_9 : decode cJ2_checkBoundsBeginEnd_d044e 9 = .ok (.return_, 1) := by decide +kernel
theorem dJ7_fill_53178_0 : decode cJ7_fill_53178 0 = .ok (.iconst 0, 1) := by decide +kernel
theorem dJ7_fill_53178_1 : decode cJ7_fill_53178 1 = .ok (.istore_n 2, 1) := by decide +kernel
theorem dJ7_fill_53178_2 : decode cJ7_fill_53178 2 = .ok (.aload_n 0, 1) := by decide +kernel
theorem dJ7_fill_53178_3 : decode cJ7_fill_53178 3 = .ok (.arraylength, 1) := by decide +kernel
theorem dJ7_fill_53178_4 : decode cJ7_fill_53178 4 = .ok (.istore_n 3, 1) := by decide +kernel
theorem dJ7_fill_53178_5 : decode cJ7_fill_53178 5 = .ok (.iload_n 2, 1) := by decide +kernel
theorem dJ7_fill_53178_6 : decode cJ7_fill_53178 6 = .ok (.iload_n 3, 1) := by decide +kernel
theorem dJ7_fill_53178_7 : decode cJ7_fill_53178 7 = .ok (.if_icmp .ge 13, 3) := by decide +kernel
theorem dJ7_fill_53178_10 : decode cJ7_fill_53178 10 = .ok (.aload_n 0, 1) := by decide +kernel
theorem dJ7_fill_53178_11 : decode cJ7_fill_53178 11 = .ok (.iload_n 2, 1) := by decide +kernel
theorem dJ7_fill_53178_12 : decode cJ7_fill_53178 12 = .ok (.iload_n 1, 1) := by decide +kernel
theorem dJ7_fill_53178_13 : decode cJ7_fill_53178 13 = .ok (.iastore, 1) := by decide +kernel
theorem dJ7_fill_53178_14 : decode cJ7_fill_53178 14 = .ok (.iinc 2 1, 3) := by decide +kernel
theorem dJ7_fill_53178_17 : decode cJ7_fill_53178 17 = .ok (.goto (-12), 3) := by decide +kernel
theorem dJ7_fill_53178_20 : decode cJ7_fill_53178 20 = .ok (.return_, 1) := by decide +kernel
theorem dJ3_checkFromToIndex_8c36e_0 : decode cJ3_checkFromToIndex_8c36e 0 = .ok (.iload_n 0, 1) := by decide +kernel
theorem dJ3_checkFromToIndex_8c36e_1 : decode cJ3_checkFromToIndex_8c36e 1 = .ok (.ifCond .lt 13, 3) := by decide +kernel
theorem dJ3_checkFromToIndex_8c36e_4 : decode cJ3_checkFromToIndex_8c36e 4 = .ok (.iload_n 0, 1) := by decide +kernel
theorem dJ3_checkFromToIndex_8c36e_5 : decode cJ3_checkFromToIndex_8c36e 5 = .ok (.iload_n 1, 1) := by decide +kernel
theorem dJ3_checkFromToIndex_8c36e_6 : decode cJ3_checkFromToIndex_8c36e 6 = .ok (.if_icmp .gt 8, 3) := by decide +kernel
theorem dJ3_checkFromToIndex_8c36e_9 : decode cJ3_checkFromToIndex_8c36e 9 = .ok (.iload_n 1, 1) := by decide +kernel
theorem dJ3_checkFromToIndex_8c36e_10 : decode cJ3_checkFromToIndex_8c36e 10 = .ok (.iload_n 2, 1) := by decide +kernel
theorem dJ3_checkFromToIndex_8c36e_11 : decode cJ3_checkFromToIndex_8c36e 11 = .ok (.if_icmp .le 11, 3) := by decide +kernel
theorem dJ3_checkFromToIndex_8c36e_14 : decode cJ3_checkFromToIndex_8c36e 14 = .ok (.aload_n 3, 1) := by decide +kernel
theorem dJ3_checkFromToIndex_8c36e_15 : decode cJ3_checkFromToIndex_8c36e 15 = .ok (.iload_n 0, 1) := by decide +kernel
theorem dJ3_checkFromToIndex_8c36e_16 : decode cJ3_checkFromToIndex_8c36e 16 = .ok (.iload_n 1, 1) := by decide +kernel
theorem dJ3_checkFromToIndex_8c36e_17 : decode cJ3_checkFromToIndex_8c36e 17 = .ok (.iload_n 2, 1) := by decide +kernel
theorem dJ3_checkFromToIndex_8c36e_18 : decode cJ3_checkFromToIndex_8c36e 18 = .ok (.invokestatic 99, 3) := by decide +kernel
theorem dJ3_checkFromToIndex_8c36e_21 : decode cJ3_checkFromToIndex_8c36e 21 = .ok (.athrow, 1) := by decide +kernel
theorem dJ3_checkFromToIndex_8c36e_22 : decode cJ3_checkFromToIndex_8c36e 22 = .ok (.iload_n 0, 1) := by decide +kernel
theorem dJ3_checkFromToIndex_8c36e_23 : decode cJ3_checkFromToIndex_8c36e 23 = .ok (.ireturn, 1) := by decide +kernel
