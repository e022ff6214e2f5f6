theorem dX7_init_0 : decode cX7_init 0 = .ok (.aload_n 0, 1) := by decide +kernel
theorem dX7_init_1 : decode cX7_init 1 = .ok (.invokespecial 1, 3) := by decide +kernel
theorem dX7_init_4 : decode cX7_init 4 = .ok (.aload_n 0, 1) := by decide +kernel
theorem dX7_init_5 : decode cX7_init 5 = .ok (.iconst (-1), 1) := by decide +kernel
theorem dX7_init_6 : decode cX7_init 6 = .ok (.putfield 7, 3) := by decide +kernel
theorem dX7_init_9 : decode cX7_init 9 = .ok (.aload_n 0, 1) := by decide +kernel
theorem dX7_init_10 : decode cX7_init 10 = .ok (.new 13, 3) := by decide +kernel
theorem dX7_init_13 : decode cX7_init 13 = .ok (.dup, 1) := by decide +kernel
theorem dX7_init_14 : decode cX7_init 14 = .ok (.invokespecial 15, 3) := by decide +kernel
theorem dX7_init_17 : decode cX7_init 17 = .ok (.putfield 16, 3) := by decide +kernel
theorem dX7_init_20 : decode cX7_init 20 = .ok (.return_, 1) := by decide +kernel
theorem dX7_got_0 : decode cX7_got 0 = .ok (.aload_n 0, 1) := by decide +kernel
theorem dX7_got_1 : decode cX7_got 1 = .ok (.getfield 16, 3) := by decide +kernel
theorem dX7_got_4 : decode cX7_got 4 = .ok (.aload_n 0, 1) := by decide +kernel
theorem dX7_got_5 : decode cX7_got 5 = .ok (.getfield 7, 3) := by decide +kernel
theorem dX7_got_8 : decode cX7_got 8 = .ok (.invokestatic 20, 3) := by decide +kernel
theorem dX7_got_11 : decode cX7_got 11 = .ok (.invokeinterface 26 2, 5) := by decide +kernel
theorem dX7_got_16 : decode cX7_got 16 = .ok (.ireturn, 1) := by decide +kernel
theorem dX8_init_0 : decode cX8_init 0 = .ok (.aload_n 0, 1) := by decide +kernel
theorem dX8_init_1 : decode cX8_init 1 = .ok (.invokespecial 1, 3) := by decide +kernel
theorem dX8_init_4 : decode cX8_init 4 = .ok (.aload_n 0, 1) := by decide +kernel
theorem dX8_init_5 : decode cX8_init 5 = .ok (.new 7, 3) := by decide +kernel
theorem dX8_init_8 : decode cX8_init 8 = .ok (.dup, 1) := by decide +kernel
theorem dX8_init_9 : decode cX8_init 9 = .ok (.invokespecial 9, 3) := by decide +kernel
theorem dX8_init_12 : decode cX8_init 12 = .ok (.putfield 10, 3) := by decide +kernel
theorem dX8_init_15 : decode cX8_init 15 = .ok (.aload_n 0, 1) := by decide +kernel
theorem dX8_init_16 : decode cX8_init 16 = .ok (.new 7, 3) := by decide +kernel
theorem dX8_init_19 : decode cX8_init 19 = .ok (.dup, 1) := by decide +kernel
theorem dX8_init_20 : decode cX8_init 20 = .ok (.invokespecial 9, 3) := by decide +kernel
theorem dX8_init_23 : decode cX8_init 23 = .ok (.putfield 16, 3) := by decide +kernel
theorem dX8_init_26 : decode cX8_init 26 = .ok (.return_, 1) := by decide +kernel
theorem dL_cell_0 : decode cL_cell 0 = .ok (.iload_n 1, 1) := by decide +kernel
theorem dL_cell_1 : decode cL_cell 1 = .ok (.aload_n 0, 1) := by decide +kernel
theorem dL_cell_2 : decode cL_cell 2 = .ok (.arraylength, 1) := by decide +kernel
theorem dL_cell_3 : decode cL_cell 3 = .ok (.if_icmp .ge 9, 3) := by decide +kernel
theorem dL_cell_6 : decode cL_cell 6 = .ok (.aload_n 0, 1) := by decide +kernel
theorem dL_cell_7 : decode cL_cell 7 = .ok (.iload_n 1, 1) := by decide +kernel
theorem dL_cell_8 : decode cL_cell 8 = .ok (.iaload, 1) := by decide +kernel
theorem dL_cell_9 : decode cL_cell 9 = .ok (.goto 10, 3) := by decide +kernel
theorem dL_cell_12 : decode cL_cell 12 = .ok (.bipush 113, 2) := by decide +kernel
theorem dL_cell_14 : decode cL_cell 14 = .ok (.iload_n 1, 1) := by decide +kernel
theorem dL_cell_15 : decode cL_cell 15 = .ok (.imul, 1) := by decide +kernel
theorem dL_cell_16 : decode cL_cell 16 = .ok (.bipush 67, 2) := by decide +kernel
theorem dL_cell_18 : decode cL_cell 18 = .ok (.iadd, 1) := by decide +kernel
theorem dL_cell_19 : decode cL_cell 19 = .ok (.ireturn, 1) := by decide +kernel
theorem dL_bits_0 : decode cL_bits 0 = .ok (.iload_n 0, 1) := by decide +kernel
theorem dL_bits_1 : decode cL_bits 1 = .ok (.iload_n 1, 1) := by decide +kernel
theorem dL_bits_2 : decode cL_bits 2 = .ok (.iushr, 1) := by decide +kernel
theorem dL_bits_3 : decode cL_bits 3 = .ok (.iconst 1, 1) := by decide +kernel
theorem dL_bits_4 : decode cL_bits 4 = .ok (.iload_n 2, 1) := by decide +kernel
theorem dL_bits_5 : decode cL_bits 5 = .ok (.ishl, 1) := by decide +kernel
theorem dL_bits_6 : decode cL_bits 6 = .ok (.iconst 1, 1) := by decide +kernel
theorem dL_bits_7 : decode cL_bits 7 = .ok (.isub, 1) := by decide +kernel
theorem dL_bits_8 : decode cL_bits 8 = .ok (.iand, 1) := by decide +kernel
theorem dL_bits_9 : decode cL_bits 9 = .ok (.ireturn, 1) := by decide +kernel
theorem dL_told_0 : decode cL_told 0 = .ok (.iconst 0, 1) := by decide +kernel
theorem dL_told_1 : decode cL_told 1 = .ok (.istore_n 2, 1) := by decide +kernel
theorem dL_told_2 : decode cL_told 2 = .ok (.iload_n 2, 1) := by decide +kernel
theorem dL_told_3 : decode cL_told 3 = .ok (.aload_n 1, 1) := by decide +kernel
theorem dL_told_4 : decode cL_told 4 = .ok (.invokevirtual 1, 3) := by decide +kernel
theorem dL_told_7 : decode cL_told 7 = .ok (.if_icmp .ge 89, 3) := by decide +kernel
theorem dL_told_10 : decode cL_told 10 = .ok (.iconst 5, 1) := by decide +kernel
theorem dL_told_11 : decode cL_told 11 = .ok (.newarray .int, 2) := by decide +kernel
theorem dL_told_13 : decode cL_told 13 = .ok (.astore_n 3, 1) := by decide +kernel
theorem dL_told_14 : decode cL_told 14 = .ok (.iconst 0, 1) := by decide +kernel
theorem dL_told_15 : decode cL_told 15 = .ok (.istore 4, 2) := by decide +kernel
theorem dL_told_17 : decode cL_told 17 = .ok (.iload 4, 2) := by decide +kernel
theorem dL_told_19 : decode cL_told 19 = .ok (.bipush 20, 2) := by decide +kernel
theorem dL_told_21 : decode cL_told 21 = .ok (.if_icmp .ge 49, 3) := by decide +kernel
theorem dL_told_24 : decode cL_told 24 = .ok (.aload_n 3, 1) := by decide +kernel
theorem dL_told_25 : decode cL_told 25 = .ok (.iload 4, 2) := by decide +kernel
theorem dL_told_27 : decode cL_told 27 = .ok (.iconst 4, 1) := by decide +kernel
theorem dL_told_28 : decode cL_told 28 = .ok (.idiv, 1) := by decide +kernel
theorem dL_told_29 : decode cL_told 29 = .ok (.aload_n 3, 1) := by decide +kernel
theorem dL_told_30 : decode cL_told 30 = .ok (.iload 4, 2) := by decide +kernel
theorem dL_told_32 : decode cL_told 32 = .ok (.iconst 4, 1) := by decide +kernel
theorem dL_told_33 : decode cL_told 33 = .ok (.idiv, 1) := by decide +kernel
theorem dL_told_34 : decode cL_told 34 = .ok (.iaload, 1) := by decide +kernel
theorem dL_told_35 : decode cL_told 35 = .ok (.bipush 8, 2) := by decide +kernel
theorem dL_told_37 : decode cL_told 37 = .ok (.ishl, 1) := by decide +kernel
theorem dL_told_38 : decode cL_told 38 = .ok (.iload_n 2, 1) := by decide +kernel
theorem dL_told_39 : decode cL_told 39 = .ok (.iload 4, 2) := by decide +kernel
theorem dL_told_41 : decode cL_told 41 = .ok (.iadd, 1) := by decide +kernel
theorem dL_told_42 : decode cL_told 42 = .ok (.aload_n 1, 1) := by decide +kernel
theorem dL_told_43 : decode cL_told 43 = .ok (.invokevirtual 1, 3) := by decide +kernel
theorem dL_told_46 : decode cL_told 46 = .ok (.if_icmp .ge 14, 3) := by decide +kernel
theorem dL_told_49 : decode cL_told 49 = .ok (.aload_n 1, 1) := by decide +kernel
theorem dL_told_50 : decode cL_told 50 = .ok (.iload_n 2, 1) := by decide +kernel
theorem dL_told_51 : decode cL_told 51 = .ok (.iload 4, 2) := by decide +kernel
theorem dL_told_53 : decode cL_told 53 = .ok (.iadd, 1) := by decide +kernel
theorem dL_told_54 : decode cL_told 54 = .ok (.invokevirtual 7, 3) := by decide +kernel
theorem dL_told_57 : decode cL_told 57 = .ok (.goto 5, 3) := by decide +kernel
theorem dL_told_60 : decode cL_told 60 = .ok (.bipush 32, 2) := by decide +kernel
theorem dL_told_62 : decode cL_told 62 = .ok (.ior, 1) := by decide +kernel
theorem dL_told_63 : decode cL_told 63 = .ok (.iastore, 1) := by decide +kernel
theorem dL_told_64 : decode cL_told 64 = .ok (.iinc 4 1, 3) := by decide +kernel
theorem dL_told_67 : decode cL_told 67 = .ok (.goto (-50), 3) := by decide +kernel
theorem dL_told_70 : decode cL_told 70 = .ok (.aload_n 0, 1) := by decide +kernel
theorem dL_told_71 : decode cL_told 71 = .ok (.aload_n 3, 1) := by decide +kernel
theorem dL_told_72 : decode cL_told 72 = .ok (.iconst 0, 1) := by decide +kernel
theorem dL_told_73 : decode cL_told 73 = .ok (.iaload, 1) := by decide +kernel
theorem dL_told_74 : decode cL_told 74 = .ok (.aload_n 3, 1) := by decide +kernel
theorem dL_told_75 : decode cL_told 75 = .ok (.iconst 1, 1) := by decide +kernel
theorem dL_told_76 : decode cL_told 76 = .ok (.iaload, 1) := by decide +kernel
theorem dL_told_77 : decode cL_told 77 = .ok (.aload_n 3, 1) := by decide +kernel
theorem dL_told_78 : decode cL_told 78 = .ok (.iconst 2, 1) := by decide +kernel
theorem dL_told_79 : decode cL_told 79 = .ok (.iaload, 1) := by decide +kernel
theorem dL_told_80 : decode cL_told 80 = .ok (.aload_n 3, 1) := by decide +kernel
theorem dL_told_81 : decode cL_told 81 = .ok (.iconst 3, 1) := by decide +kernel
theorem dL_told_82 : decode cL_told 82 = .ok (.iaload, 1) := by decide +kernel
theorem dL_told_83 : decode cL_told 83 = .ok (.aload_n 3, 1) := by decide +kernel
theorem dL_told_84 : decode cL_told 84 = .ok (.iconst 4, 1) := by decide +kernel
theorem dL_told_85 : decode cL_told 85 = .ok (.iaload, 1) := by decide +kernel
theorem dL_told_86 : decode cL_told 86 = .ok (.invokevirtual 11, 3) := by decide +kernel
theorem dL_told_89 : decode cL_told 89 = .ok (.pop, 1) := by decide +kernel
theorem dL_told_90 : decode cL_told 90 = .ok (.iinc 2 20, 3) := by decide +kernel
theorem dL_told_93 : decode cL_told 93 = .ok (.goto (-91), 3) := by decide +kernel
theorem dL_told_96 : decode cL_told 96 = .ok (.aload_n 0, 1) := by decide +kernel
theorem dL_told_97 : decode cL_told 97 = .ok (.aload_n 1, 1) := by decide +kernel
theorem dL_told_98 : decode cL_told 98 = .ok (.invokevirtual 1, 3) := by decide +kernel
theorem dL_told_101 : decode cL_told 101 = .ok (.invokevirtual 17, 3) := by decide +kernel
theorem dL_told_104 : decode cL_told 104 = .ok (.pop, 1) := by decide +kernel
theorem dL_told_105 : decode cL_told 105 = .ok (.return_, 1) := by decide +kernel
theorem dL_init_0 : decode cL_init 0 = .ok (.aload_n 0, 1) := by decide +kernel
theorem dL_init_1 : decode cL_init 1 = .ok (.invokespecial 21, 3) := by decide +kernel
theorem dL_init_4 : decode cL_init 4 = .ok (.aload_n 0, 1) := by decide +kernel
theorem dL_init_5 : decode cL_init 5 = .ok (.new 27, 3) := by decide +kernel
theorem dL_init_8 : decode cL_init 8 = .ok (.dup, 1) := by decide +kernel
theorem dL_init_9 : decode cL_init 9 = .ok (.invokespecial 29, 3) := by decide +kernel
theorem dL_init_12 : decode cL_init 12 = .ok (.putfield 30, 3) := by decide +kernel
theorem dL_init_15 : decode cL_init 15 = .ok (.aload_n 0, 1) := by decide +kernel
theorem dL_init_16 : decode cL_init 16 = .ok (.new 27, 3) := by decide +kernel
theorem dL_init_19 : decode cL_init 19 = .ok (.dup, 1) := by decide +kernel
theorem dL_init_20 : decode cL_init 20 = .ok (.invokespecial 29, 3) := by decide +kernel
theorem dL_init_23 : decode cL_init 23 = .ok (.putfield 36, 3) := by decide +kernel
theorem dL_init_26 : decode cL_init 26 = .ok (.aload_n 1, 1) := by decide +kernel
theorem dL_init_27 : decode cL_init 27 = .ok (.iconst 0, 1) := by decide +kernel
theorem dL_init_28 : decode cL_init 28 = .ok (.invokestatic 39, 3) := by decide +kernel
theorem dL_init_31 : decode cL_init 31 = .ok (.istore_n 2, 1) := by decide +kernel
theorem dL_init_32 : decode cL_init 32 = .ok (.aload_n 0, 1) := by decide +kernel
theorem dL_init_33 : decode cL_init 33 = .ok (.iload_n 2, 1) := by decide +kernel
theorem dL_init_34 : decode cL_init 34 = .ok (.iconst 0, 1) := by decide +kernel
theorem dL_init_35 : decode cL_init 35 = .ok (.iconst 2, 1) := by decide +kernel
theorem dL_init_36 : decode cL_init 36 = .ok (.invokestatic 43, 3) := by decide +kernel
theorem dL_init_39 : decode cL_init 39 = .ok (.putfield 47, 3) := by decide +kernel
theorem dL_init_42 : decode cL_init 42 = .ok (.aload_n 0, 1) := by decide +kernel
theorem dL_init_43 : decode cL_init 43 = .ok (.iload_n 2, 1) := by decide +kernel
theorem dL_init_44 : decode cL_init 44 = .ok (.iconst 2, 1) := by decide +kernel
theorem dL_init_45 : decode cL_init 45 = .ok (.iconst 1, 1) := by decide +kernel
theorem dL_init_46 : decode cL_init 46 = .ok (.invokestatic 43, 3) := by decide +kernel
theorem dL_init_49 : decode cL_init 49 = .ok (.putfield 51, 3) := by decide +kernel
theorem dL_init_52 : decode cL_init 52 = .ok (.aload_n 0, 1) := by decide +kernel
theorem dL_init_53 : decode cL_init 53 = .ok (.iload_n 2, 1) := by decide +kernel
theorem dL_init_54 : decode cL_init 54 = .ok (.iconst 3, 1) := by decide +kernel
theorem dL_init_55 : decode cL_init 55 = .ok (.bipush 9, 2) := by decide +kernel
theorem dL_init_57 : decode cL_init 57 = .ok (.invokestatic 43, 3) := by decide +kernel
theorem dL_init_60 : decode cL_init 60 = .ok (.putfield 54, 3) := by decide +kernel
theorem dL_init_63 : decode cL_init 63 = .ok (.aload_n 0, 1) := by decide +kernel
theorem dL_init_64 : decode cL_init 64 = .ok (.aload_n 0, 1) := by decide +kernel
theorem dL_init_65 : decode cL_init 65 = .ok (.getfield 54, 3) := by decide +kernel
theorem dL_init_68 : decode cL_init 68 = .ok (.putfield 57, 3) := by decide +kernel
theorem dL_init_71 : decode cL_init 71 = .ok (.iconst 0, 1) := by decide +kernel
theorem dL_init_72 : decode cL_init 72 = .ok (.istore_n 3, 1) := by decide +kernel
theorem dL_init_73 : decode cL_init 73 = .ok (.iload_n 3, 1) := by decide +kernel
theorem dL_init_74 : decode cL_init 74 = .ok (.iconst 4, 1) := by decide +kernel
theorem dL_init_75 : decode cL_init 75 = .ok (.if_icmp .ge 280, 3) := by decide +kernel
theorem dL_init_78 : decode cL_init 78 = .ok (.aload_n 1, 1) := by decide +kernel
theorem dL_init_79 : decode cL_init 79 = .ok (.iconst 1, 1) := by decide +kernel
theorem dL_init_80 : decode cL_init 80 = .ok (.iload_n 3, 1) := by decide +kernel
theorem dL_init_81 : decode cL_init 81 = .ok (.iadd, 1) := by decide +kernel
theorem dL_init_82 : decode cL_init 82 = .ok (.invokestatic 39, 3) := by decide +kernel
theorem dL_init_85 : decode cL_init 85 = .ok (.istore 4, 2) := by decide +kernel
theorem dL_init_87 : decode cL_init 87 = .ok (.new 60, 3) := by decide +kernel
theorem dL_init_90 : decode cL_init 90 = .ok (.dup, 1) := by decide +kernel
theorem dL_init_91 : decode cL_init 91 = .ok (.invokespecial 62, 3) := by decide +kernel
theorem dL_init_94 : decode cL_init 94 = .ok (.astore 5, 2) := by decide +kernel
theorem dL_init_96 : decode cL_init 96 = .ok (.aload 5, 2) := by decide +kernel
theorem dL_init_98 : decode cL_init 98 = .ok (.iload_n 3, 1) := by decide +kernel
theorem dL_init_99 : decode cL_init 99 = .ok (.putfield 63, 3) := by decide +kernel
theorem dL_init_102 : decode cL_init 102 = .ok (.aload 5, 2) := by decide +kernel
theorem dL_init_104 : decode cL_init 104 = .ok (.iload 4, 2) := by decide +kernel
theorem dL_init_106 : decode cL_init 106 = .ok (.iconst 0, 1) := by decide +kernel
theorem dL_init_107 : decode cL_init 107 = .ok (.iconst 2, 1) := by decide +kernel
theorem dL_init_108 : decode cL_init 108 = .ok (.invokestatic 43, 3) := by decide +kernel
theorem dL_init_111 : decode cL_init 111 = .ok (.putfield 66, 3) := by decide +kernel
theorem dL_init_114 : decode cL_init 114 = .ok (.aload 5, 2) := by decide +kernel
theorem dL_init_116 : decode cL_init 116 = .ok (.iload 4, 2) := by decide +kernel
theorem dL_init_118 : decode cL_init 118 = .ok (.iconst 2, 1) := by decide +kernel
theorem dL_init_119 : decode cL_init 119 = .ok (.iconst 4, 1) := by decide +kernel
theorem dL_init_120 : decode cL_init 120 = .ok (.invokestatic 43, 3) := by decide +kernel
theorem dL_init_123 : decode cL_init 123 = .ok (.putfield 69, 3) := by decide +kernel
theorem dL_init_126 : decode cL_init 126 = .ok (.aload 5, 2) := by decide +kernel
theorem dL_init_128 : decode cL_init 128 = .ok (.iload 4, 2) := by decide +kernel
theorem dL_init_130 : decode cL_init 130 = .ok (.bipush 6, 2) := by decide +kernel
theorem dL_init_132 : decode cL_init 132 = .ok (.iconst 4, 1) := by decide +kernel
theorem dL_init_133 : decode cL_init 133 = .ok (.invokestatic 43, 3) := by decide +kernel
theorem dL_init_136 : decode cL_init 136 = .ok (.putfield 72, 3) := by decide +kernel
theorem dL_init_139 : decode cL_init 139 = .ok (.iconst 0, 1) := by decide +kernel
theorem dL_init_140 : decode cL_init 140 = .ok (.istore 6, 2) := by decide +kernel
theorem dL_init_142 : decode cL_init 142 = .ok (.iload 6, 2) := by decide +kernel
theorem dL_init_144 : decode cL_init 144 = .ok (.iconst 3, 1) := by decide +kernel
theorem dL_init_145 : decode cL_init 145 = .ok (.if_icmp .ge 64, 3) := by decide +kernel
theorem dL_init_148 : decode cL_init 148 = .ok (.iload 4, 2) := by decide +kernel
theorem dL_init_150 : decode cL_init 150 = .ok (.bipush 10, 2) := by decide +kernel
theorem dL_init_152 : decode cL_init 152 = .ok (.iconst 2, 1) := by decide +kernel
theorem dL_init_153 : decode cL_init 153 = .ok (.iload 6, 2) := by decide +kernel
theorem dL_init_155 : decode cL_init 155 = .ok (.imul, 1) := by decide +kernel
theorem dL_init_156 : decode cL_init 156 = .ok (.iadd, 1) := by decide +kernel
theorem dL_init_157 : decode cL_init 157 = .ok (.iconst 2, 1) := by decide +kernel
theorem dL_init_158 : decode cL_init 158 = .ok (.invokestatic 43, 3) := by decide +kernel
theorem dL_init_161 : decode cL_init 161 = .ok (.istore 7, 2) := by decide +kernel
theorem dL_init_163 : decode cL_init 163 = .ok (.iload 7, 2) := by decide +kernel
theorem dL_init_165 : decode cL_init 165 = .ok (.iconst 3, 1) := by decide +kernel
theorem dL_init_166 : decode cL_init 166 = .ok (.if_icmp .ge 37, 3) := by decide +kernel
theorem dL_init_169 : decode cL_init 169 = .ok (.aload 5, 2) := by decide +kernel
theorem dL_init_171 : decode cL_init 171 = .ok (.getfield 75, 3) := by decide +kernel
theorem dL_init_174 : decode cL_init 174 = .ok (.iload 7, 2) := by decide +kernel
theorem dL_init_176 : decode cL_init 176 = .ok (.invokestatic 78, 3) := by decide +kernel
theorem dL_init_179 : decode cL_init 179 = .ok (.invokeinterface 84 2, 5) := by decide +kernel
theorem dL_init_184 : decode cL_init 184 = .ok (.ifCond .ne 19, 3) := by decide +kernel
theorem dL_init_187 : decode cL_init 187 = .ok (.aload 5, 2) := by decide +kernel
theorem dL_init_189 : decode cL_init 189 = .ok (.getfield 75, 3) := by decide +kernel
theorem dL_init_192 : decode cL_init 192 = .ok (.iload 7, 2) := by decide +kernel
theorem dL_init_194 : decode cL_init 194 = .ok (.invokestatic 78, 3) := by decide +kernel
theorem dL_init_197 : decode cL_init 197 = .ok (.invokeinterface 90 2, 5) := by decide +kernel
theorem dL_init_202 : decode cL_init 202 = .ok (.pop, 1) := by decide +kernel
theorem dL_init_203 : decode cL_init 203 = .ok (.iinc 6 1, 3) := by decide +kernel
theorem dL_init_206 : decode cL_init 206 = .ok (.goto (-64), 3) := by decide +kernel
theorem dL_init_209 : decode cL_init 209 = .ok (.iload 4, 2) := by decide +kernel
theorem dL_init_211 : decode cL_init 211 = .ok (.bipush 16, 2) := by decide +kernel
theorem dL_init_213 : decode cL_init 213 = .ok (.iconst 1, 1) := by decide +kernel
theorem dL_init_214 : decode cL_init 214 = .ok (.invokestatic 43, 3) := by decide +kernel
theorem dL_init_217 : decode cL_init 217 = .ok (.iconst 1, 1) := by decide +kernel
theorem dL_init_218 : decode cL_init 218 = .ok (.if_icmp .ne 73, 3) := by decide +kernel
theorem dL_init_221 : decode cL_init 221 = .ok (.aload 5, 2) := by decide +kernel
theorem dL_init_223 : decode cL_init 223 = .ok (.iconst 4, 1) := by decide +kernel
theorem dL_init_224 : decode cL_init 224 = .ok (.newarray .int, 2) := by decide +kernel
theorem dL_init_226 : decode cL_init 226 = .ok (.dup, 1) := by decide +kernel
theorem dL_init_227 : decode cL_init 227 = .ok (.iconst 0, 1) := by decide +kernel
theorem dL_init_228 : decode cL_init 228 = .ok (.iload 4, 2) := by decide +kernel
theorem dL_init_230 : decode cL_init 230 = .ok (.bipush 17, 2) := by decide +kernel
theorem dL_init_232 : decode cL_init 232 = .ok (.iconst 3, 1) := by decide +kernel
theorem dL_init_233 : decode cL_init 233 = .ok (.invokestatic 43, 3) := by decide +kernel
theorem dL_init_236 : decode cL_init 236 = .ok (.iastore, 1) := by decide +kernel
theorem dL_init_237 : decode cL_init 237 = .ok (.dup, 1) := by decide +kernel
theorem dL_init_238 : decode cL_init 238 = .ok (.iconst 1, 1) := by decide +kernel
theorem dL_init_239 : decode cL_init 239 = .ok (.iload 4, 2) := by decide +kernel
theorem dL_init_241 : decode cL_init 241 = .ok (.bipush 20, 2) := by decide +kernel
theorem dL_init_243 : decode cL_init 243 = .ok (.iconst 3, 1) := by decide +kernel
theorem dL_init_244 : decode cL_init 244 = .ok (.invokestatic 43, 3) := by decide +kernel
theorem dL_init_247 : decode cL_init 247 = .ok (.iastore, 1) := by decide +kernel
theorem dL_init_248 : decode cL_init 248 = .ok (.dup, 1) := by decide +kernel
theorem dL_init_249 : decode cL_init 249 = .ok (.iconst 2, 1) := by decide +kernel
theorem dL_init_250 : decode cL_init 250 = .ok (.iload 4, 2) := by decide +kernel
theorem dL_init_252 : decode cL_init 252 = .ok (.bipush 17, 2) := by decide +kernel
theorem dL_init_254 : decode cL_init 254 = .ok (.iconst 3, 1) := by decide +kernel
theorem dL_init_255 : decode cL_init 255 = .ok (.invokestatic 43, 3) := by decide +kernel
theorem dL_init_258 : decode cL_init 258 = .ok (.iload 4, 2) := by decide +kernel
theorem dL_init_260 : decode cL_init 260 = .ok (.bipush 23, 2) := by decide +kernel
theorem dL_init_262 : decode cL_init 262 = .ok (.iconst 3, 1) := by decide +kernel
theorem dL_init_263 : decode cL_init 263 = .ok (.invokestatic 43, 3) := by decide +kernel
theorem dL_init_266 : decode cL_init 266 = .ok (.iadd, 1) := by decide +kernel
theorem dL_init_267 : decode cL_init 267 = .ok (.iastore, 1) := by decide +kernel
theorem dL_init_268 : decode cL_init 268 = .ok (.dup, 1) := by decide +kernel
theorem dL_init_269 : decode cL_init 269 = .ok (.iconst 3, 1) := by decide +kernel
theorem dL_init_270 : decode cL_init 270 = .ok (.iload 4, 2) := by decide +kernel
theorem dL_init_272 : decode cL_init 272 = .ok (.bipush 20, 2) := by decide +kernel
theorem dL_init_274 : decode cL_init 274 = .ok (.iconst 3, 1) := by decide +kernel
theorem dL_init_275 : decode cL_init 275 = .ok (.invokestatic 43, 3) := by decide +kernel
theorem dL_init_278 : decode cL_init 278 = .ok (.iload 4, 2) := by decide +kernel
theorem dL_init_280 : decode cL_init 280 = .ok (.bipush 26, 2) := by decide +kernel
theorem dL_init_282 : decode cL_init 282 = .ok (.iconst 3, 1) := by decide +kernel
theorem dL_init_283 : decode cL_init 283 = .ok (.invokestatic 43, 3) := by decide +kernel
theorem dL_init_286 : decode cL_init 286 = .ok (.iadd, 1) := by decide +kernel
theorem dL_init_287 : decode cL_init 287 = .ok (.iastore, 1) := by decide +kernel
theorem dL_init_288 : decode cL_init 288 = .ok (.putfield 93, 3) := by decide +kernel
theorem dL_init_291 : decode cL_init 291 = .ok (.aload_n 1, 1) := by decide +kernel
theorem dL_init_292 : decode cL_init 292 = .ok (.iconst 5, 1) := by decide +kernel
theorem dL_init_293 : decode cL_init 293 = .ok (.invokestatic 39, 3) := by decide +kernel
theorem dL_init_296 : decode cL_init 296 = .ok (.iconst 4, 1) := by decide +kernel
theorem dL_init_297 : decode cL_init 297 = .ok (.iload_n 3, 1) := by decide +kernel
theorem dL_init_298 : decode cL_init 298 = .ok (.imul, 1) := by decide +kernel
theorem dL_init_299 : decode cL_init 299 = .ok (.iconst 1, 1) := by decide +kernel
theorem dL_init_300 : decode cL_init 300 = .ok (.invokestatic 43, 3) := by decide +kernel
theorem dL_init_303 : decode cL_init 303 = .ok (.iconst 1, 1) := by decide +kernel
theorem dL_init_304 : decode cL_init 304 = .ok (.if_icmp .ne 33, 3) := by decide +kernel
theorem dL_init_307 : decode cL_init 307 = .ok (.aload 5, 2) := by decide +kernel
theorem dL_init_309 : decode cL_init 309 = .ok (.getfield 97, 3) := by decide +kernel
theorem dL_init_312 : decode cL_init 312 = .ok (.iconst 1, 1) := by decide +kernel
theorem dL_init_313 : decode cL_init 313 = .ok (.aload_n 1, 1) := by decide +kernel
theorem dL_init_314 : decode cL_init 314 = .ok (.iconst 5, 1) := by decide +kernel
theorem dL_init_315 : decode cL_init 315 = .ok (.invokestatic 39, 3) := by decide +kernel
theorem dL_init_318 : decode cL_init 318 = .ok (.iconst 4, 1) := by decide +kernel
theorem dL_init_319 : decode cL_init 319 = .ok (.iload_n 3, 1) := by decide +kernel
theorem dL_init_320 : decode cL_init 320 = .ok (.imul, 1) := by decide +kernel
theorem dL_init_321 : decode cL_init 321 = .ok (.iconst 1, 1) := by decide +kernel
theorem dL_init_322 : decode cL_init 322 = .ok (.iadd, 1) := by decide +kernel
theorem dL_init_323 : decode cL_init 323 = .ok (.iconst 2, 1) := by decide +kernel
theorem dL_init_324 : decode cL_init 324 = .ok (.invokestatic 43, 3) := by decide +kernel
theorem dL_init_327 : decode cL_init 327 = .ok (.iadd, 1) := by decide +kernel
theorem dL_init_328 : decode cL_init 328 = .ok (.invokestatic 78, 3) := by decide +kernel
theorem dL_init_331 : decode cL_init 331 = .ok (.invokeinterface 90 2, 5) := by decide +kernel
theorem dL_init_336 : decode cL_init 336 = .ok (.pop, 1) := by decide +kernel
theorem dL_init_337 : decode cL_init 337 = .ok (.aload_n 0, 1) := by decide +kernel
theorem dL_init_338 : decode cL_init 338 = .ok (.getfield 30, 3) := by decide +kernel
theorem dL_init_341 : decode cL_init 341 = .ok (.aload 5, 2) := by decide +kernel
theorem dL_init_343 : decode cL_init 343 = .ok (.invokeinterface 90 2, 5) := by decide +kernel
theorem dL_init_348 : decode cL_init 348 = .ok (.pop, 1) := by decide +kernel
theorem dL_init_349 : decode cL_init 349 = .ok (.iinc 3 1, 3) := by decide +kernel
theorem dL_init_352 : decode cL_init 352 = .ok (.goto (-279), 3) := by decide +kernel
theorem dL_init_355 : decode cL_init 355 = .ok (.iconst 0, 1) := by decide +kernel
theorem dL_init_356 : decode cL_init 356 = .ok (.istore_n 3, 1) := by decide +kernel
theorem dL_init_357 : decode cL_init 357 = .ok (.iload_n 3, 1) := by decide +kernel
theorem dL_init_358 : decode cL_init 358 = .ok (.bipush 9, 2) := by decide +kernel
theorem dL_init_360 : decode cL_init 360 = .ok (.if_icmp .ge 22, 3) := by decide +kernel
theorem dL_init_363 : decode cL_init 363 = .ok (.aload_n 0, 1) := by decide +kernel
theorem dL_init_364 : decode cL_init 364 = .ok (.aload_n 1, 1) := by decide +kernel
theorem dL_init_365 : decode cL_init 365 = .ok (.bipush 6, 2) := by decide +kernel
theorem dL_init_367 : decode cL_init 367 = .ok (.iload_n 3, 1) := by decide +kernel
theorem dL_init_368 : decode cL_init 368 = .ok (.iadd, 1) := by decide +kernel
theorem dL_init_369 : decode cL_init 369 = .ok (.invokestatic 39, 3) := by decide +kernel
theorem dL_init_372 : decode cL_init 372 = .ok (.invokevirtual 100, 3) := by decide +kernel
theorem dL_init_375 : decode cL_init 375 = .ok (.pop, 1) := by decide +kernel
theorem dL_init_376 : decode cL_init 376 = .ok (.iinc 3 1, 3) := by decide +kernel
theorem dL_init_379 : decode cL_init 379 = .ok (.goto (-22), 3) := by decide +kernel
theorem dL_init_382 : decode cL_init 382 = .ok (.return_, 1) := by decide +kernel
theorem dL_add_0 : decode cL_add 0 = .ok (.new 103, 3) := by decide +kernel
theorem dL_add_3 : decode cL_add 3 = .ok (.dup, 1) := by decide +kernel
theorem dL_add_4 : decode cL_add 4 = .ok (.invokespecial 105, 3) := by decide +kernel
theorem dL_add_7 : decode cL_add 7 = .ok (.astore_n 2, 1) := by decide +kernel
theorem dL_add_8 : decode cL_add 8 = .ok (.aload_n 2, 1) := by decide +kernel
theorem dL_add_9 : decode cL_add 9 = .ok (.aload_n 0, 1) := by decide +kernel
theorem dL_add_10 : decode cL_add 10 = .ok (.getfield 36, 3) := by decide +kernel
theorem dL_add_13 : decode cL_add 13 = .ok (.invokeinterface 106 1, 5) := by decide +kernel
theorem dL_add_18 : decode cL_add 18 = .ok (.putfield 109, 3) := by decide +kernel
theorem dL_add_21 : decode cL_add 21 = .ok (.aload_n 2, 1) := by decide +kernel
theorem dL_add_22 : decode cL_add 22 = .ok (.iload_n 1, 1) := by decide +kernel
theorem dL_add_23 : decode cL_add 23 = .ok (.iconst 0, 1) := by decide +kernel
theorem dL_add_24 : decode cL_add 24 = .ok (.iconst 4, 1) := by decide +kernel
theorem dL_add_25 : decode cL_add 25 = .ok (.invokestatic 43, 3) := by decide +kernel
theorem dL_add_28 : decode cL_add 28 = .ok (.putfield 110, 3) := by decide +kernel
theorem dL_add_31 : decode cL_add 31 = .ok (.aload_n 2, 1) := by decide +kernel
theorem dL_add_32 : decode cL_add 32 = .ok (.iload_n 1, 1) := by decide +kernel
theorem dL_add_33 : decode cL_add 33 = .ok (.iconst 4, 1) := by decide +kernel
theorem dL_add_34 : decode cL_add 34 = .ok (.iconst 4, 1) := by decide +kernel
theorem dL_add_35 : decode cL_add 35 = .ok (.invokestatic 43, 3) := by decide +kernel
theorem dL_add_38 : decode cL_add 38 = .ok (.putfield 111, 3) := by decide +kernel
theorem dL_add_41 : decode cL_add 41 = .ok (.aload_n 2, 1) := by decide +kernel
theorem dL_add_42 : decode cL_add 42 = .ok (.iload_n 1, 1) := by decide +kernel
theorem dL_add_43 : decode cL_add 43 = .ok (.bipush 8, 2) := by decide +kernel
theorem dL_add_45 : decode cL_add 45 = .ok (.iconst 3, 1) := by decide +kernel
theorem dL_add_46 : decode cL_add 46 = .ok (.invokestatic 43, 3) := by decide +kernel
theorem dL_add_49 : decode cL_add 49 = .ok (.iconst 4, 1) := by decide +kernel
theorem dL_add_50 : decode cL_add 50 = .ok (.if_icmp .le 7, 3) := by decide +kernel
theorem dL_add_53 : decode cL_add 53 = .ok (.iconst 0, 1) := by decide +kernel
theorem dL_add_54 : decode cL_add 54 = .ok (.goto 10, 3) := by decide +kernel
theorem dL_add_57 : decode cL_add 57 = .ok (.iload_n 1, 1) := by decide +kernel
theorem dL_add_58 : decode cL_add 58 = .ok (.bipush 8, 2) := by decide +kernel
theorem dL_add_60 : decode cL_add 60 = .ok (.iconst 3, 1) := by decide +kernel
theorem dL_add_61 : decode cL_add 61 = .ok (.invokestatic 43, 3) := by decide +kernel
theorem dL_add_64 : decode cL_add 64 = .ok (.putfield 112, 3) := by decide +kernel
theorem dL_add_67 : decode cL_add 67 = .ok (.aload_n 2, 1) := by decide +kernel
theorem dL_add_68 : decode cL_add 68 = .ok (.iload_n 1, 1) := by decide +kernel
theorem dL_add_69 : decode cL_add 69 = .ok (.bipush 11, 2) := by decide +kernel
theorem dL_add_71 : decode cL_add 71 = .ok (.iconst 2, 1) := by decide +kernel
theorem dL_add_72 : decode cL_add 72 = .ok (.invokestatic 43, 3) := by decide +kernel
theorem dL_add_75 : decode cL_add 75 = .ok (.ifCond .ne 7, 3) := by decide +kernel
theorem dL_add_78 : decode cL_add 78 = .ok (.iconst 1, 1) := by decide +kernel
theorem dL_add_79 : decode cL_add 79 = .ok (.goto 4, 3) := by decide +kernel
theorem dL_add_82 : decode cL_add 82 = .ok (.iconst 0, 1) := by decide +kernel
theorem dL_add_83 : decode cL_add 83 = .ok (.putfield 115, 3) := by decide +kernel
theorem dL_add_86 : decode cL_add 86 = .ok (.aload_n 2, 1) := by decide +kernel
theorem dL_add_87 : decode cL_add 87 = .ok (.aload_n 0, 1) := by decide +kernel
theorem dL_add_88 : decode cL_add 88 = .ok (.getfield 119, 3) := by decide +kernel
theorem dL_add_91 : decode cL_add 91 = .ok (.putfield 122, 3) := by decide +kernel
theorem dL_add_94 : decode cL_add 94 = .ok (.iconst 0, 1) := by decide +kernel
theorem dL_add_95 : decode cL_add 95 = .ok (.istore_n 3, 1) := by decide +kernel
theorem dL_add_96 : decode cL_add 96 = .ok (.iload_n 3, 1) := by decide +kernel
theorem dL_add_97 : decode cL_add 97 = .ok (.iconst 1, 1) := by decide +kernel
theorem dL_add_98 : decode cL_add 98 = .ok (.iload_n 1, 1) := by decide +kernel
theorem dL_add_99 : decode cL_add 99 = .ok (.bipush 13, 2) := by decide +kernel
theorem dL_add_101 : decode cL_add 101 = .ok (.iconst 2, 1) := by decide +kernel
theorem dL_add_102 : decode cL_add 102 = .ok (.invokestatic 43, 3) := by decide +kernel
theorem dL_add_105 : decode cL_add 105 = .ok (.iadd, 1) := by decide +kernel
theorem dL_add_106 : decode cL_add 106 = .ok (.if_icmp .ge 54, 3) := by decide +kernel
theorem dL_add_109 : decode cL_add 109 = .ok (.iload_n 1, 1) := by decide +kernel
theorem dL_add_110 : decode cL_add 110 = .ok (.bipush 15, 2) := by decide +kernel
theorem dL_add_112 : decode cL_add 112 = .ok (.iconst 2, 1) := by decide +kernel
theorem dL_add_113 : decode cL_add 113 = .ok (.iload_n 3, 1) := by decide +kernel
theorem dL_add_114 : decode cL_add 114 = .ok (.imul, 1) := by decide +kernel
theorem dL_add_115 : decode cL_add 115 = .ok (.iadd, 1) := by decide +kernel
theorem dL_add_116 : decode cL_add 116 = .ok (.iconst 2, 1) := by decide +kernel
theorem dL_add_117 : decode cL_add 117 = .ok (.invokestatic 43, 3) := by decide +kernel
theorem dL_add_120 : decode cL_add 120 = .ok (.istore 4, 2) := by decide +kernel
theorem dL_add_122 : decode cL_add 122 = .ok (.aload_n 2, 1) := by decide +kernel
theorem dL_add_123 : decode cL_add 123 = .ok (.getfield 124, 3) := by decide +kernel
theorem dL_add_126 : decode cL_add 126 = .ok (.iload 4, 2) := by decide +kernel
theorem dL_add_128 : decode cL_add 128 = .ok (.invokestatic 78, 3) := by decide +kernel
theorem dL_add_131 : decode cL_add 131 = .ok (.invokeinterface 84 2, 5) := by decide +kernel
theorem dL_add_136 : decode cL_add 136 = .ok (.ifCond .ne 18, 3) := by decide +kernel
theorem dL_add_139 : decode cL_add 139 = .ok (.aload_n 2, 1) := by decide +kernel
theorem dL_add_140 : decode cL_add 140 = .ok (.getfield 124, 3) := by decide +kernel
theorem dL_add_143 : decode cL_add 143 = .ok (.iload 4, 2) := by decide +kernel
theorem dL_add_145 : decode cL_add 145 = .ok (.invokestatic 78, 3) := by decide +kernel
theorem dL_add_148 : decode cL_add 148 = .ok (.invokeinterface 90 2, 5) := by decide +kernel
theorem dL_add_153 : decode cL_add 153 = .ok (.pop, 1) := by decide +kernel
theorem dL_add_154 : decode cL_add 154 = .ok (.iinc 3 1, 3) := by decide +kernel
theorem dL_add_157 : decode cL_add 157 = .ok (.goto (-61), 3) := by decide +kernel
theorem dL_add_160 : decode cL_add 160 = .ok (.aload_n 0, 1) := by decide +kernel
theorem dL_add_161 : decode cL_add 161 = .ok (.aload_n 0, 1) := by decide +kernel
theorem dL_add_162 : decode cL_add 162 = .ok (.getfield 57, 3) := by decide +kernel
theorem dL_add_165 : decode cL_add 165 = .ok (.ldc 127, 2) := by decide +kernel
theorem dL_add_167 : decode cL_add 167 = .ok (.imul, 1) := by decide +kernel
theorem dL_add_168 : decode cL_add 168 = .ok (.sipush 12345, 3) := by decide +kernel
theorem dL_add_171 : decode cL_add 171 = .ok (.iadd, 1) := by decide +kernel
theorem dL_add_172 : decode cL_add 172 = .ok (.ldc 128, 2) := by decide +kernel
theorem dL_add_174 : decode cL_add 174 = .ok (.iand, 1) := by decide +kernel
theorem dL_add_175 : decode cL_add 175 = .ok (.putfield 57, 3) := by decide +kernel
theorem dL_add_178 : decode cL_add 178 = .ok (.aload_n 2, 1) := by decide +kernel
theorem dL_add_179 : decode cL_add 179 = .ok (.aload_n 0, 1) := by decide +kernel
theorem dL_add_180 : decode cL_add 180 = .ok (.getfield 57, 3) := by decide +kernel
theorem dL_add_183 : decode cL_add 183 = .ok (.bipush 16, 2) := by decide +kernel
theorem dL_add_185 : decode cL_add 185 = .ok (.ishr, 1) := by decide +kernel
theorem dL_add_186 : decode cL_add 186 = .ok (.sipush 10000, 3) := by decide +kernel
theorem dL_add_189 : decode cL_add 189 = .ok (.irem, 1) := by decide +kernel
theorem dL_add_190 : decode cL_add 190 = .ok (.putfield 129, 3) := by decide +kernel
theorem dL_add_193 : decode cL_add 193 = .ok (.aload_n 0, 1) := by decide +kernel
theorem dL_add_194 : decode cL_add 194 = .ok (.getfield 36, 3) := by decide +kernel
theorem dL_add_197 : decode cL_add 197 = .ok (.aload_n 2, 1) := by decide +kernel
theorem dL_add_198 : decode cL_add 198 = .ok (.invokeinterface 90 2, 5) := by decide +kernel
theorem dL_add_203 : decode cL_add 203 = .ok (.pop, 1) := by decide +kernel
theorem dL_add_204 : decode cL_add 204 = .ok (.aload_n 2, 1) := by decide +kernel
theorem dL_add_205 : decode cL_add 205 = .ok (.areturn, 1) := by decide +kernel
theorem dL_text_0 : decode cL_text 0 = .ok (.new 132, 3) := by decide +kernel
theorem dL_text_3 : decode cL_text 3 = .ok (.dup, 1) := by decide +kernel
theorem dL_text_4 : decode cL_text 4 = .ok (.new 132, 3) := by decide +kernel
theorem dL_text_7 : decode cL_text 7 = .ok (.dup, 1) := by decide +kernel
theorem dL_text_8 : decode cL_text 8 = .ok (.invokespecial 134, 3) := by decide +kernel
theorem dL_text_11 : decode cL_text 11 = .ok (.ldc 135, 2) := by decide +kernel
theorem dL_text_13 : decode cL_text 13 = .ok (.invokevirtual 137, 3) := by decide +kernel
theorem dL_text_16 : decode cL_text 16 = .ok (.aload_n 0, 1) := by decide +kernel
theorem dL_text_17 : decode cL_text 17 = .ok (.getfield 54, 3) := by decide +kernel
theorem dL_text_20 : decode cL_text 20 = .ok (.invokevirtual 141, 3) := by decide +kernel
theorem dL_text_23 : decode cL_text 23 = .ok (.ldc 144, 2) := by decide +kernel
theorem dL_text_25 : decode cL_text 25 = .ok (.invokevirtual 137, 3) := by decide +kernel
theorem dL_text_28 : decode cL_text 28 = .ok (.aload_n 0, 1) := by decide +kernel
theorem dL_text_29 : decode cL_text 29 = .ok (.getfield 47, 3) := by decide +kernel
theorem dL_text_32 : decode cL_text 32 = .ok (.invokevirtual 141, 3) := by decide +kernel
theorem dL_text_35 : decode cL_text 35 = .ok (.ldc 146, 2) := by decide +kernel
theorem dL_text_37 : decode cL_text 37 = .ok (.invokevirtual 137, 3) := by decide +kernel
theorem dL_text_40 : decode cL_text 40 = .ok (.aload_n 0, 1) := by decide +kernel
theorem dL_text_41 : decode cL_text 41 = .ok (.getfield 51, 3) := by decide +kernel
theorem dL_text_44 : decode cL_text 44 = .ok (.invokevirtual 141, 3) := by decide +kernel
theorem dL_text_47 : decode cL_text 47 = .ok (.ldc 148, 2) := by decide +kernel
theorem dL_text_49 : decode cL_text 49 = .ok (.invokevirtual 137, 3) := by decide +kernel
theorem dL_text_52 : decode cL_text 52 = .ok (.invokevirtual 150, 3) := by decide +kernel
theorem dL_text_55 : decode cL_text 55 = .ok (.invokespecial 154, 3) := by decide +kernel
theorem dL_text_58 : decode cL_text 58 = .ok (.astore_n 1, 1) := by decide +kernel
theorem dL_text_59 : decode cL_text 59 = .ok (.aload_n 0, 1) := by decide +kernel
theorem dL_text_60 : decode cL_text 60 = .ok (.getfield 30, 3) := by decide +kernel
theorem dL_text_63 : decode cL_text 63 = .ok (.invokeinterface 157 1, 5) := by decide +kernel
theorem dL_text_68 : decode cL_text 68 = .ok (.astore_n 2, 1) := by decide +kernel
theorem dL_text_69 : decode cL_text 69 = .ok (.aload_n 2, 1) := by decide +kernel
theorem dL_text_70 : decode cL_text 70 = .ok (.invokeinterface 161 1, 5) := by decide +kernel
theorem dL_text_75 : decode cL_text 75 = .ok (.ifCond .eq 302, 3) := by decide +kernel
theorem dL_text_78 : decode cL_text 78 = .ok (.aload_n 2, 1) := by decide +kernel
theorem dL_text_79 : decode cL_text 79 = .ok (.invokeinterface 167 1, 5) := by decide +kernel
theorem dL_text_84 : decode cL_text 84 = .ok (.checkcast 60, 3) := by decide +kernel
theorem dL_text_87 : decode cL_text 87 = .ok (.astore_n 3, 1) := by decide +kernel
theorem dL_text_88 : decode cL_text 88 = .ok (.aload_n 1, 1) := by decide +kernel
theorem dL_text_89 : decode cL_text 89 = .ok (.ldc 171, 2) := by decide +kernel
theorem dL_text_91 : decode cL_text 91 = .ok (.invokevirtual 137, 3) := by decide +kernel
theorem dL_text_94 : decode cL_text 94 = .ok (.bipush 97, 2) := by decide +kernel
theorem dL_text_96 : decode cL_text 96 = .ok (.aload_n 3, 1) := by decide +kernel
theorem dL_text_97 : decode cL_text 97 = .ok (.getfield 63, 3) := by decide +kernel
theorem dL_text_100 : decode cL_text 100 = .ok (.iadd, 1) := by decide +kernel
theorem dL_text_101 : decode cL_text 101 = .ok (.i2c, 1) := by decide +kernel
theorem dL_text_102 : decode cL_text 102 = .ok (.invokevirtual 173, 3) := by decide +kernel
theorem dL_text_105 : decode cL_text 105 = .ok (.bipush 32, 2) := by decide +kernel
theorem dL_text_107 : decode cL_text 107 = .ok (.invokevirtual 173, 3) := by decide +kernel
theorem dL_text_110 : decode cL_text 110 = .ok (.aload_n 3, 1) := by decide +kernel
theorem dL_text_111 : decode cL_text 111 = .ok (.getfield 66, 3) := by decide +kernel
theorem dL_text_114 : decode cL_text 114 = .ok (.invokevirtual 141, 3) := by decide +kernel
theorem dL_text_117 : decode cL_text 117 = .ok (.bipush 32, 2) := by decide +kernel
theorem dL_text_119 : decode cL_text 119 = .ok (.invokevirtual 173, 3) := by decide +kernel
theorem dL_text_122 : decode cL_text 122 = .ok (.aload_n 3, 1) := by decide +kernel
theorem dL_text_123 : decode cL_text 123 = .ok (.getfield 69, 3) := by decide +kernel
theorem dL_text_126 : decode cL_text 126 = .ok (.invokevirtual 141, 3) := by decide +kernel
theorem dL_text_129 : decode cL_text 129 = .ok (.bipush 32, 2) := by decide +kernel
theorem dL_text_131 : decode cL_text 131 = .ok (.invokevirtual 173, 3) := by decide +kernel
theorem dL_text_134 : decode cL_text 134 = .ok (.aload_n 3, 1) := by decide +kernel
theorem dL_text_135 : decode cL_text 135 = .ok (.getfield 72, 3) := by decide +kernel
theorem dL_text_138 : decode cL_text 138 = .ok (.invokevirtual 141, 3) := by decide +kernel
theorem dL_text_141 : decode cL_text 141 = .ok (.pop, 1) := by decide +kernel
theorem dL_text_142 : decode cL_text 142 = .ok (.aload_n 3, 1) := by decide +kernel
theorem dL_text_143 : decode cL_text 143 = .ok (.getfield 75, 3) := by decide +kernel
theorem dL_text_146 : decode cL_text 146 = .ok (.invokeinterface 157 1, 5) := by decide +kernel
theorem dL_text_151 : decode cL_text 151 = .ok (.astore 4, 2) := by decide +kernel
theorem dL_text_153 : decode cL_text 153 = .ok (.aload 4, 2) := by decide +kernel
theorem dL_text_155 : decode cL_text 155 = .ok (.invokeinterface 161 1, 5) := by decide +kernel
theorem dL_text_160 : decode cL_text 160 = .ok (.ifCond .eq 49, 3) := by decide +kernel
theorem dL_text_163 : decode cL_text 163 = .ok (.aload 4, 2) := by decide +kernel
theorem dL_text_165 : decode cL_text 165 = .ok (.invokeinterface 167 1, 5) := by decide +kernel
theorem dL_text_170 : decode cL_text 170 = .ok (.checkcast 79, 3) := by decide +kernel
theorem dL_text_173 : decode cL_text 173 = .ok (.invokevirtual 176, 3) := by decide +kernel
theorem dL_text_176 : decode cL_text 176 = .ok (.istore 5, 2) := by decide +kernel
theorem dL_text_178 : decode cL_text 178 = .ok (.aload_n 1, 1) := by decide +kernel
theorem dL_text_179 : decode cL_text 179 = .ok (.iload 5, 2) := by decide +kernel
theorem dL_text_181 : decode cL_text 181 = .ok (.ifCond .ne 8, 3) := by decide +kernel
theorem dL_text_184 : decode cL_text 184 = .ok (.ldc 179, 2) := by decide +kernel
theorem dL_text_186 : decode cL_text 186 = .ok (.goto 16, 3) := by decide +kernel
theorem dL_text_189 : decode cL_text 189 = .ok (.iload 5, 2) := by decide +kernel
theorem dL_text_191 : decode cL_text 191 = .ok (.iconst 1, 1) := by decide +kernel
theorem dL_text_192 : decode cL_text 192 = .ok (.if_icmp .ne 8, 3) := by decide +kernel
theorem dL_text_195 : decode cL_text 195 = .ok (.ldc 181, 2) := by decide +kernel
theorem dL_text_197 : decode cL_text 197 = .ok (.goto 5, 3) := by decide +kernel
theorem dL_text_200 : decode cL_text 200 = .ok (.ldc 183, 2) := by decide +kernel
theorem dL_text_202 : decode cL_text 202 = .ok (.invokevirtual 137, 3) := by decide +kernel
theorem dL_text_205 : decode cL_text 205 = .ok (.pop, 1) := by decide +kernel
theorem dL_text_206 : decode cL_text 206 = .ok (.goto (-53), 3) := by decide +kernel
theorem dL_text_209 : decode cL_text 209 = .ok (.aload_n 1, 1) := by decide +kernel
theorem dL_text_210 : decode cL_text 210 = .ok (.bipush 59, 2) := by decide +kernel
theorem dL_text_212 : decode cL_text 212 = .ok (.invokevirtual 173, 3) := by decide +kernel
theorem dL_text_215 : decode cL_text 215 = .ok (.pop, 1) := by decide +kernel
theorem dL_text_216 : decode cL_text 216 = .ok (.aload_n 3, 1) := by decide +kernel
theorem dL_text_217 : decode cL_text 217 = .ok (.getfield 93, 3) := by decide +kernel
theorem dL_text_220 : decode cL_text 220 = .ok (.ifnull 82, 3) := by decide +kernel
theorem dL_text_223 : decode cL_text 223 = .ok (.aload_n 1, 1) := by decide +kernel
theorem dL_text_224 : decode cL_text 224 = .ok (.ldc 185, 2) := by decide +kernel
theorem dL_text_226 : decode cL_text 226 = .ok (.invokevirtual 137, 3) := by decide +kernel
theorem dL_text_229 : decode cL_text 229 = .ok (.bipush 97, 2) := by decide +kernel
theorem dL_text_231 : decode cL_text 231 = .ok (.aload_n 3, 1) := by decide +kernel
theorem dL_text_232 : decode cL_text 232 = .ok (.getfield 63, 3) := by decide +kernel
theorem dL_text_235 : decode cL_text 235 = .ok (.iadd, 1) := by decide +kernel
theorem dL_text_236 : decode cL_text 236 = .ok (.i2c, 1) := by decide +kernel
theorem dL_text_237 : decode cL_text 237 = .ok (.invokevirtual 173, 3) := by decide +kernel
theorem dL_text_240 : decode cL_text 240 = .ok (.bipush 32, 2) := by decide +kernel
theorem dL_text_242 : decode cL_text 242 = .ok (.invokevirtual 173, 3) := by decide +kernel
theorem dL_text_245 : decode cL_text 245 = .ok (.aload_n 3, 1) := by decide +kernel
theorem dL_text_246 : decode cL_text 246 = .ok (.getfield 93, 3) := by decide +kernel
theorem dL_text_249 : decode cL_text 249 = .ok (.iconst 0, 1) := by decide +kernel
theorem dL_text_250 : decode cL_text 250 = .ok (.iaload, 1) := by decide +kernel
theorem dL_text_251 : decode cL_text 251 = .ok (.invokevirtual 141, 3) := by decide +kernel
theorem dL_text_254 : decode cL_text 254 = .ok (.bipush 32, 2) := by decide +kernel
theorem dL_text_256 : decode cL_text 256 = .ok (.invokevirtual 173, 3) := by decide +kernel
theorem dL_text_259 : decode cL_text 259 = .ok (.aload_n 3, 1) := by decide +kernel
theorem dL_text_260 : decode cL_text 260 = .ok (.getfield 93, 3) := by decide +kernel
theorem dL_text_263 : decode cL_text 263 = .ok (.iconst 1, 1) := by decide +kernel
theorem dL_text_264 : decode cL_text 264 = .ok (.iaload, 1) := by decide +kernel
theorem dL_text_265 : decode cL_text 265 = .ok (.invokevirtual 141, 3) := by decide +kernel
theorem dL_text_268 : decode cL_text 268 = .ok (.bipush 32, 2) := by decide +kernel
theorem dL_text_270 : decode cL_text 270 = .ok (.invokevirtual 173, 3) := by decide +kernel
theorem dL_text_273 : decode cL_text 273 = .ok (.aload_n 3, 1) := by decide +kernel
theorem dL_text_274 : decode cL_text 274 = .ok (.getfield 93, 3) := by decide +kernel
theorem dL_text_277 : decode cL_text 277 = .ok (.iconst 2, 1) := by decide +kernel
theorem dL_text_278 : decode cL_text 278 = .ok (.iaload, 1) := by decide +kernel
theorem dL_text_279 : decode cL_text 279 = .ok (.invokevirtual 141, 3) := by decide +kernel
theorem dL_text_282 : decode cL_text 282 = .ok (.bipush 32, 2) := by decide +kernel
theorem dL_text_284 : decode cL_text 284 = .ok (.invokevirtual 173, 3) := by decide +kernel
theorem dL_text_287 : decode cL_text 287 = .ok (.aload_n 3, 1) := by decide +kernel
theorem dL_text_288 : decode cL_text 288 = .ok (.getfield 93, 3) := by decide +kernel
theorem dL_text_291 : decode cL_text 291 = .ok (.iconst 3, 1) := by decide +kernel
theorem dL_text_292 : decode cL_text 292 = .ok (.iaload, 1) := by decide +kernel
theorem dL_text_293 : decode cL_text 293 = .ok (.invokevirtual 141, 3) := by decide +kernel
theorem dL_text_296 : decode cL_text 296 = .ok (.bipush 59, 2) := by decide +kernel
theorem dL_text_298 : decode cL_text 298 = .ok (.invokevirtual 173, 3) := by decide +kernel
theorem dL_text_301 : decode cL_text 301 = .ok (.pop, 1) := by decide +kernel
theorem dL_text_302 : decode cL_text 302 = .ok (.aload_n 3, 1) := by decide +kernel
theorem dL_text_303 : decode cL_text 303 = .ok (.getfield 97, 3) := by decide +kernel
theorem dL_text_306 : decode cL_text 306 = .ok (.invokeinterface 157 1, 5) := by decide +kernel
theorem dL_text_311 : decode cL_text 311 = .ok (.astore 4, 2) := by decide +kernel
theorem dL_text_313 : decode cL_text 313 = .ok (.aload 4, 2) := by decide +kernel
theorem dL_text_315 : decode cL_text 315 = .ok (.invokeinterface 161 1, 5) := by decide +kernel
theorem dL_text_320 : decode cL_text 320 = .ok (.ifCond .eq 54, 3) := by decide +kernel
theorem dL_text_323 : decode cL_text 323 = .ok (.aload 4, 2) := by decide +kernel
theorem dL_text_325 : decode cL_text 325 = .ok (.invokeinterface 167 1, 5) := by decide +kernel
theorem dL_text_330 : decode cL_text 330 = .ok (.checkcast 79, 3) := by decide +kernel
theorem dL_text_333 : decode cL_text 333 = .ok (.invokevirtual 176, 3) := by decide +kernel
theorem dL_text_336 : decode cL_text 336 = .ok (.istore 5, 2) := by decide +kernel
theorem dL_text_338 : decode cL_text 338 = .ok (.aload_n 1, 1) := by decide +kernel
theorem dL_text_339 : decode cL_text 339 = .ok (.ldc 187, 2) := by decide +kernel
theorem dL_text_341 : decode cL_text 341 = .ok (.invokevirtual 137, 3) := by decide +kernel
theorem dL_text_344 : decode cL_text 344 = .ok (.iload 5, 2) := by decide +kernel
theorem dL_text_346 : decode cL_text 346 = .ok (.invokevirtual 141, 3) := by decide +kernel
theorem dL_text_349 : decode cL_text 349 = .ok (.ldc 189, 2) := by decide +kernel
theorem dL_text_351 : decode cL_text 351 = .ok (.invokevirtual 137, 3) := by decide +kernel
theorem dL_text_354 : decode cL_text 354 = .ok (.bipush 97, 2) := by decide +kernel
theorem dL_text_356 : decode cL_text 356 = .ok (.aload_n 3, 1) := by decide +kernel
theorem dL_text_357 : decode cL_text 357 = .ok (.getfield 63, 3) := by decide +kernel
theorem dL_text_360 : decode cL_text 360 = .ok (.iadd, 1) := by decide +kernel
theorem dL_text_361 : decode cL_text 361 = .ok (.i2c, 1) := by decide +kernel
theorem dL_text_362 : decode cL_text 362 = .ok (.invokevirtual 173, 3) := by decide +kernel
theorem dL_text_365 : decode cL_text 365 = .ok (.bipush 59, 2) := by decide +kernel
theorem dL_text_367 : decode cL_text 367 = .ok (.invokevirtual 173, 3) := by decide +kernel
theorem dL_text_370 : decode cL_text 370 = .ok (.pop, 1) := by decide +kernel
theorem dL_text_371 : decode cL_text 371 = .ok (.goto (-58), 3) := by decide +kernel
theorem dL_text_374 : decode cL_text 374 = .ok (.goto (-305), 3) := by decide +kernel
theorem dL_text_377 : decode cL_text 377 = .ok (.aload_n 0, 1) := by decide +kernel
theorem dL_text_378 : decode cL_text 378 = .ok (.getfield 36, 3) := by decide +kernel
theorem dL_text_381 : decode cL_text 381 = .ok (.invokeinterface 157 1, 5) := by decide +kernel
theorem dL_text_386 : decode cL_text 386 = .ok (.astore_n 2, 1) := by decide +kernel
theorem dL_text_387 : decode cL_text 387 = .ok (.aload_n 2, 1) := by decide +kernel
theorem dL_text_388 : decode cL_text 388 = .ok (.invokeinterface 161 1, 5) := by decide +kernel
theorem dL_text_393 : decode cL_text 393 = .ok (.ifCond .eq 163, 3) := by decide +kernel
theorem dL_text_396 : decode cL_text 396 = .ok (.aload_n 2, 1) := by decide +kernel
theorem dL_text_397 : decode cL_text 397 = .ok (.invokeinterface 167 1, 5) := by decide +kernel
theorem dL_text_402 : decode cL_text 402 = .ok (.checkcast 103, 3) := by decide +kernel
theorem dL_text_405 : decode cL_text 405 = .ok (.astore_n 3, 1) := by decide +kernel
theorem dL_text_406 : decode cL_text 406 = .ok (.aload_n 1, 1) := by decide +kernel
theorem dL_text_407 : decode cL_text 407 = .ok (.ldc 191, 2) := by decide +kernel
theorem dL_text_409 : decode cL_text 409 = .ok (.invokevirtual 137, 3) := by decide +kernel
theorem dL_text_412 : decode cL_text 412 = .ok (.aload_n 3, 1) := by decide +kernel
theorem dL_text_413 : decode cL_text 413 = .ok (.getfield 110, 3) := by decide +kernel
theorem dL_text_416 : decode cL_text 416 = .ok (.invokevirtual 141, 3) := by decide +kernel
theorem dL_text_419 : decode cL_text 419 = .ok (.bipush 32, 2) := by decide +kernel
theorem dL_text_421 : decode cL_text 421 = .ok (.invokevirtual 173, 3) := by decide +kernel
theorem dL_text_424 : decode cL_text 424 = .ok (.aload_n 3, 1) := by decide +kernel
theorem dL_text_425 : decode cL_text 425 = .ok (.getfield 111, 3) := by decide +kernel
theorem dL_text_428 : decode cL_text 428 = .ok (.invokevirtual 141, 3) := by decide +kernel
theorem dL_text_431 : decode cL_text 431 = .ok (.aload_n 3, 1) := by decide +kernel
theorem dL_text_432 : decode cL_text 432 = .ok (.getfield 115, 3) := by decide +kernel
theorem dL_text_435 : decode cL_text 435 = .ok (.ifCond .eq 8, 3) := by decide +kernel
theorem dL_text_438 : decode cL_text 438 = .ok (.ldc 179, 2) := by decide +kernel
theorem dL_text_440 : decode cL_text 440 = .ok (.goto 5, 3) := by decide +kernel
theorem dL_text_443 : decode cL_text 443 = .ok (.ldc 193, 2) := by decide +kernel
theorem dL_text_445 : decode cL_text 445 = .ok (.invokevirtual 137, 3) := by decide +kernel
theorem dL_text_448 : decode cL_text 448 = .ok (.aload_n 3, 1) := by decide +kernel
theorem dL_text_449 : decode cL_text 449 = .ok (.getfield 112, 3) := by decide +kernel
theorem dL_text_452 : decode cL_text 452 = .ok (.ifCond .le 28, 3) := by decide +kernel
theorem dL_text_455 : decode cL_text 455 = .ok (.new 132, 3) := by decide +kernel
theorem dL_text_458 : decode cL_text 458 = .ok (.dup, 1) := by decide +kernel
theorem dL_text_459 : decode cL_text 459 = .ok (.invokespecial 134, 3) := by decide +kernel
theorem dL_text_462 : decode cL_text 462 = .ok (.ldc 195, 2) := by decide +kernel
theorem dL_text_464 : decode cL_text 464 = .ok (.invokevirtual 137, 3) := by decide +kernel
theorem dL_text_467 : decode cL_text 467 = .ok (.aload_n 3, 1) := by decide +kernel
theorem dL_text_468 : decode cL_text 468 = .ok (.getfield 112, 3) := by decide +kernel
theorem dL_text_471 : decode cL_text 471 = .ok (.invokevirtual 141, 3) := by decide +kernel
theorem dL_text_474 : decode cL_text 474 = .ok (.invokevirtual 150, 3) := by decide +kernel
theorem dL_text_477 : decode cL_text 477 = .ok (.goto 5, 3) := by decide +kernel
theorem dL_text_480 : decode cL_text 480 = .ok (.ldc 193, 2) := by decide +kernel
theorem dL_text_482 : decode cL_text 482 = .ok (.invokevirtual 137, 3) := by decide +kernel
theorem dL_text_485 : decode cL_text 485 = .ok (.ldc 197, 2) := by decide +kernel
theorem dL_text_487 : decode cL_text 487 = .ok (.invokevirtual 137, 3) := by decide +kernel
theorem dL_text_490 : decode cL_text 490 = .ok (.pop, 1) := by decide +kernel
theorem dL_text_491 : decode cL_text 491 = .ok (.aload_n 3, 1) := by decide +kernel
theorem dL_text_492 : decode cL_text 492 = .ok (.getfield 124, 3) := by decide +kernel
theorem dL_text_495 : decode cL_text 495 = .ok (.invokeinterface 157 1, 5) := by decide +kernel
theorem dL_text_500 : decode cL_text 500 = .ok (.astore 4, 2) := by decide +kernel
theorem dL_text_502 : decode cL_text 502 = .ok (.aload 4, 2) := by decide +kernel
theorem dL_text_504 : decode cL_text 504 = .ok (.invokeinterface 161 1, 5) := by decide +kernel
theorem dL_text_509 : decode cL_text 509 = .ok (.ifCond .eq 37, 3) := by decide +kernel
theorem dL_text_512 : decode cL_text 512 = .ok (.aload 4, 2) := by decide +kernel
theorem dL_text_514 : decode cL_text 514 = .ok (.invokeinterface 167 1, 5) := by decide +kernel
theorem dL_text_519 : decode cL_text 519 = .ok (.checkcast 79, 3) := by decide +kernel
theorem dL_text_522 : decode cL_text 522 = .ok (.invokevirtual 176, 3) := by decide +kernel
theorem dL_text_525 : decode cL_text 525 = .ok (.istore 5, 2) := by decide +kernel
theorem dL_text_527 : decode cL_text 527 = .ok (.aload_n 1, 1) := by decide +kernel
theorem dL_text_528 : decode cL_text 528 = .ok (.ldc 189, 2) := by decide +kernel
theorem dL_text_530 : decode cL_text 530 = .ok (.invokevirtual 137, 3) := by decide +kernel
theorem dL_text_533 : decode cL_text 533 = .ok (.bipush 97, 2) := by decide +kernel
theorem dL_text_535 : decode cL_text 535 = .ok (.iload 5, 2) := by decide +kernel
theorem dL_text_537 : decode cL_text 537 = .ok (.iadd, 1) := by decide +kernel
theorem dL_text_538 : decode cL_text 538 = .ok (.i2c, 1) := by decide +kernel
theorem dL_text_539 : decode cL_text 539 = .ok (.invokevirtual 173, 3) := by decide +kernel
theorem dL_text_542 : decode cL_text 542 = .ok (.pop, 1) := by decide +kernel
theorem dL_text_543 : decode cL_text 543 = .ok (.goto (-41), 3) := by decide +kernel
theorem dL_text_546 : decode cL_text 546 = .ok (.aload_n 1, 1) := by decide +kernel
theorem dL_text_547 : decode cL_text 547 = .ok (.bipush 59, 2) := by decide +kernel
theorem dL_text_549 : decode cL_text 549 = .ok (.invokevirtual 173, 3) := by decide +kernel
theorem dL_text_552 : decode cL_text 552 = .ok (.pop, 1) := by decide +kernel
theorem dL_text_553 : decode cL_text 553 = .ok (.goto (-166), 3) := by decide +kernel
theorem dL_text_556 : decode cL_text 556 = .ok (.aload_n 1, 1) := by decide +kernel
theorem dL_text_557 : decode cL_text 557 = .ok (.invokevirtual 150, 3) := by decide +kernel
theorem dL_text_560 : decode cL_text 560 = .ok (.areturn, 1) := by decide +kernel
theorem dL_meets_0 : decode cL_meets 0 = .ok (.iload_n 2, 1) := by decide +kernel
theorem dL_meets_1 : decode cL_meets 1 = .ok (.ifCond .ne 8, 3) := by decide +kernel
theorem dL_meets_4 : decode cL_meets 4 = .ok (.aload_n 0, 1) := by decide +kernel
theorem dL_meets_5 : decode cL_meets 5 = .ok (.getfield 115, 3) := by decide +kernel
theorem dL_meets_8 : decode cL_meets 8 = .ok (.ireturn, 1) := by decide +kernel
theorem dL_meets_9 : decode cL_meets 9 = .ok (.iload_n 2, 1) := by decide +kernel
theorem dL_meets_10 : decode cL_meets 10 = .ok (.iconst 1, 1) := by decide +kernel
theorem dL_meets_11 : decode cL_meets 11 = .ok (.if_icmp .ne 35, 3) := by decide +kernel
theorem dL_meets_14 : decode cL_meets 14 = .ok (.aload_n 0, 1) := by decide +kernel
theorem dL_meets_15 : decode cL_meets 15 = .ok (.getfield 112, 3) := by decide +kernel
theorem dL_meets_18 : decode cL_meets 18 = .ok (.ifCond .le 26, 3) := by decide +kernel
theorem dL_meets_21 : decode cL_meets 21 = .ok (.aload_n 1, 1) := by decide +kernel
theorem dL_meets_22 : decode cL_meets 22 = .ok (.getfield 97, 3) := by decide +kernel
theorem dL_meets_25 : decode cL_meets 25 = .ok (.aload_n 0, 1) := by decide +kernel
theorem dL_meets_26 : decode cL_meets 26 = .ok (.getfield 112, 3) := by decide +kernel
theorem dL_meets_29 : decode cL_meets 29 = .ok (.invokestatic 78, 3) := by decide +kernel
theorem dL_meets_32 : decode cL_meets 32 = .ok (.invokeinterface 84 2, 5) := by decide +kernel
theorem dL_meets_37 : decode cL_meets 37 = .ok (.ifCond .eq 7, 3) := by decide +kernel
theorem dL_meets_40 : decode cL_meets 40 = .ok (.iconst 1, 1) := by decide +kernel
theorem dL_meets_41 : decode cL_meets 41 = .ok (.goto 4, 3) := by decide +kernel
theorem dL_meets_44 : decode cL_meets 44 = .ok (.iconst 0, 1) := by decide +kernel
theorem dL_meets_45 : decode cL_meets 45 = .ok (.ireturn, 1) := by decide +kernel
theorem dL_meets_46 : decode cL_meets 46 = .ok (.aload_n 1, 1) := by decide +kernel
theorem dL_meets_47 : decode cL_meets 47 = .ok (.getfield 93, 3) := by decide +kernel
theorem dL_meets_50 : decode cL_meets 50 = .ok (.ifnull 59, 3) := by decide +kernel
theorem dL_meets_53 : decode cL_meets 53 = .ok (.aload_n 0, 1) := by decide +kernel
theorem dL_meets_54 : decode cL_meets 54 = .ok (.getfield 110, 3) := by decide +kernel
theorem dL_meets_57 : decode cL_meets 57 = .ok (.aload_n 1, 1) := by decide +kernel
theorem dL_meets_58 : decode cL_meets 58 = .ok (.getfield 93, 3) := by decide +kernel
theorem dL_meets_61 : decode cL_meets 61 = .ok (.iconst 0, 1) := by decide +kernel
theorem dL_meets_62 : decode cL_meets 62 = .ok (.iaload, 1) := by decide +kernel
theorem dL_meets_63 : decode cL_meets 63 = .ok (.if_icmp .lt 46, 3) := by decide +kernel
theorem dL_meets_66 : decode cL_meets 66 = .ok (.aload_n 0, 1) := by decide +kernel
theorem dL_meets_67 : decode cL_meets 67 = .ok (.getfield 111, 3) := by decide +kernel
theorem dL_meets_70 : decode cL_meets 70 = .ok (.aload_n 1, 1) := by decide +kernel
theorem dL_meets_71 : decode cL_meets 71 = .ok (.getfield 93, 3) := by decide +kernel
theorem dL_meets_74 : decode cL_meets 74 = .ok (.iconst 1, 1) := by decide +kernel
theorem dL_meets_75 : decode cL_meets 75 = .ok (.iaload, 1) := by decide +kernel
theorem dL_meets_76 : decode cL_meets 76 = .ok (.if_icmp .lt 33, 3) := by decide +kernel
theorem dL_meets_79 : decode cL_meets 79 = .ok (.aload_n 0, 1) := by decide +kernel
theorem dL_meets_80 : decode cL_meets 80 = .ok (.getfield 110, 3) := by decide +kernel
theorem dL_meets_83 : decode cL_meets 83 = .ok (.aload_n 1, 1) := by decide +kernel
theorem dL_meets_84 : decode cL_meets 84 = .ok (.getfield 93, 3) := by decide +kernel
theorem dL_meets_87 : decode cL_meets 87 = .ok (.iconst 2, 1) := by decide +kernel
theorem dL_meets_88 : decode cL_meets 88 = .ok (.iaload, 1) := by decide +kernel
theorem dL_meets_89 : decode cL_meets 89 = .ok (.if_icmp .gt 20, 3) := by decide +kernel
theorem dL_meets_92 : decode cL_meets 92 = .ok (.aload_n 0, 1) := by decide +kernel
theorem dL_meets_93 : decode cL_meets 93 = .ok (.getfield 111, 3) := by decide +kernel
theorem dL_meets_96 : decode cL_meets 96 = .ok (.aload_n 1, 1) := by decide +kernel
theorem dL_meets_97 : decode cL_meets 97 = .ok (.getfield 93, 3) := by decide +kernel
theorem dL_meets_100 : decode cL_meets 100 = .ok (.iconst 3, 1) := by decide +kernel
theorem dL_meets_101 : decode cL_meets 101 = .ok (.iaload, 1) := by decide +kernel
theorem dL_meets_102 : decode cL_meets 102 = .ok (.if_icmp .gt 7, 3) := by decide +kernel
theorem dL_meets_105 : decode cL_meets 105 = .ok (.iconst 1, 1) := by decide +kernel
theorem dL_meets_106 : decode cL_meets 106 = .ok (.goto 4, 3) := by decide +kernel
theorem dL_meets_109 : decode cL_meets 109 = .ok (.iconst 0, 1) := by decide +kernel
theorem dL_meets_110 : decode cL_meets 110 = .ok (.ireturn, 1) := by decide +kernel
theorem dL_rank_0 : decode cL_rank 0 = .ok (.iconst 0, 1) := by decide +kernel
theorem dL_rank_1 : decode cL_rank 1 = .ok (.istore_n 3, 1) := by decide +kernel
theorem dL_rank_2 : decode cL_rank 2 = .ok (.iload_n 3, 1) := by decide +kernel
theorem dL_rank_3 : decode cL_rank 3 = .ok (.aload_n 2, 1) := by decide +kernel
theorem dL_rank_4 : decode cL_rank 4 = .ok (.getfield 75, 3) := by decide +kernel
theorem dL_rank_7 : decode cL_rank 7 = .ok (.invokeinterface 106 1, 5) := by decide +kernel
theorem dL_rank_12 : decode cL_rank 12 = .ok (.if_icmp .ge 33, 3) := by decide +kernel
theorem dL_rank_15 : decode cL_rank 15 = .ok (.aload_n 1, 1) := by decide +kernel
theorem dL_rank_16 : decode cL_rank 16 = .ok (.aload_n 2, 1) := by decide +kernel
theorem dL_rank_17 : decode cL_rank 17 = .ok (.aload_n 2, 1) := by decide +kernel
theorem dL_rank_18 : decode cL_rank 18 = .ok (.getfield 75, 3) := by decide +kernel
theorem dL_rank_21 : decode cL_rank 21 = .ok (.iload_n 3, 1) := by decide +kernel
theorem dL_rank_22 : decode cL_rank 22 = .ok (.invokeinterface 199 2, 5) := by decide +kernel
theorem dL_rank_27 : decode cL_rank 27 = .ok (.checkcast 79, 3) := by decide +kernel
theorem dL_rank_30 : decode cL_rank 30 = .ok (.invokevirtual 176, 3) := by decide +kernel
theorem dL_rank_33 : decode cL_rank 33 = .ok (.invokestatic 203, 3) := by decide +kernel
theorem dL_rank_36 : decode cL_rank 36 = .ok (.ifCond .ne 9, 3) := by decide +kernel
theorem dL_rank_39 : decode cL_rank 39 = .ok (.iinc 3 1, 3) := by decide +kernel
theorem dL_rank_42 : decode cL_rank 42 = .ok (.goto (-40), 3) := by decide +kernel
theorem dL_rank_45 : decode cL_rank 45 = .ok (.aload_n 1, 1) := by decide +kernel
theorem dL_rank_46 : decode cL_rank 46 = .ok (.getfield 110, 3) := by decide +kernel
theorem dL_rank_49 : decode cL_rank 49 = .ok (.aload_n 2, 1) := by decide +kernel
theorem dL_rank_50 : decode cL_rank 50 = .ok (.getfield 69, 3) := by decide +kernel
theorem dL_rank_53 : decode cL_rank 53 = .ok (.isub, 1) := by decide +kernel
theorem dL_rank_54 : decode cL_rank 54 = .ok (.aload_n 1, 1) := by decide +kernel
theorem dL_rank_55 : decode cL_rank 55 = .ok (.getfield 110, 3) := by decide +kernel
theorem dL_rank_58 : decode cL_rank 58 = .ok (.aload_n 2, 1) := by decide +kernel
theorem dL_rank_59 : decode cL_rank 59 = .ok (.getfield 69, 3) := by decide +kernel
theorem dL_rank_62 : decode cL_rank 62 = .ok (.isub, 1) := by decide +kernel
theorem dL_rank_63 : decode cL_rank 63 = .ok (.imul, 1) := by decide +kernel
theorem dL_rank_64 : decode cL_rank 64 = .ok (.aload_n 1, 1) := by decide +kernel
theorem dL_rank_65 : decode cL_rank 65 = .ok (.getfield 111, 3) := by decide +kernel
theorem dL_rank_68 : decode cL_rank 68 = .ok (.aload_n 2, 1) := by decide +kernel
theorem dL_rank_69 : decode cL_rank 69 = .ok (.getfield 72, 3) := by decide +kernel
theorem dL_rank_72 : decode cL_rank 72 = .ok (.isub, 1) := by decide +kernel
theorem dL_rank_73 : decode cL_rank 73 = .ok (.aload_n 1, 1) := by decide +kernel
theorem dL_rank_74 : decode cL_rank 74 = .ok (.getfield 111, 3) := by decide +kernel
theorem dL_rank_77 : decode cL_rank 77 = .ok (.aload_n 2, 1) := by decide +kernel
theorem dL_rank_78 : decode cL_rank 78 = .ok (.getfield 72, 3) := by decide +kernel
theorem dL_rank_81 : decode cL_rank 81 = .ok (.isub, 1) := by decide +kernel
theorem dL_rank_82 : decode cL_rank 82 = .ok (.imul, 1) := by decide +kernel
theorem dL_rank_83 : decode cL_rank 83 = .ok (.iadd, 1) := by decide +kernel
theorem dL_rank_84 : decode cL_rank 84 = .ok (.i2l, 1) := by decide +kernel
theorem dL_rank_85 : decode cL_rank 85 = .ok (.lstore 4, 2) := by decide +kernel
theorem dL_rank_87 : decode cL_rank 87 = .ok (.aload_n 0, 1) := by decide +kernel
theorem dL_rank_88 : decode cL_rank 88 = .ok (.getfield 51, 3) := by decide +kernel
theorem dL_rank_91 : decode cL_rank 91 = .ok (.iconst 1, 1) := by decide +kernel
theorem dL_rank_92 : decode cL_rank 92 = .ok (.if_icmp .ne 14, 3) := by decide +kernel
theorem dL_rank_95 : decode cL_rank 95 = .ok (.aload_n 1, 1) := by decide +kernel
theorem dL_rank_96 : decode cL_rank 96 = .ok (.getfield 122, 3) := by decide +kernel
theorem dL_rank_99 : decode cL_rank 99 = .ok (.ifCond .eq 7, 3) := by decide +kernel
theorem dL_rank_102 : decode cL_rank 102 = .ok (.lconst 1, 1) := by decide +kernel
theorem dL_rank_103 : decode cL_rank 103 = .ok (.goto 4, 3) := by decide +kernel
theorem dL_rank_106 : decode cL_rank 106 = .ok (.lconst 0, 1) := by decide +kernel
theorem dL_rank_107 : decode cL_rank 107 = .ok (.lstore 6, 2) := by decide +kernel
theorem dL_rank_109 : decode cL_rank 109 = .ok (.lload 6, 2) := by decide +kernel
theorem dL_rank_111 : decode cL_rank 111 = .ok (.ldc2_w 207, 3) := by decide +kernel
theorem dL_rank_114 : decode cL_rank 114 = .ok (.lmul, 1) := by decide +kernel
theorem dL_rank_115 : decode cL_rank 115 = .ok (.iload_n 3, 1) := by decide +kernel
theorem dL_rank_116 : decode cL_rank 116 = .ok (.i2l, 1) := by decide +kernel
theorem dL_rank_117 : decode cL_rank 117 = .ok (.ladd, 1) := by decide +kernel
theorem dL_rank_118 : decode cL_rank 118 = .ok (.ldc2_w 209, 3) := by decide +kernel
theorem dL_rank_121 : decode cL_rank 121 = .ok (.lmul, 1) := by decide +kernel
theorem dL_rank_122 : decode cL_rank 122 = .ok (.lload 4, 2) := by decide +kernel
theorem dL_rank_124 : decode cL_rank 124 = .ok (.ladd, 1) := by decide +kernel
theorem dL_rank_125 : decode cL_rank 125 = .ok (.ldc2_w 211, 3) := by decide +kernel
theorem dL_rank_128 : decode cL_rank 128 = .ok (.lmul, 1) := by decide +kernel
theorem dL_rank_129 : decode cL_rank 129 = .ok (.aload_n 1, 1) := by decide +kernel
theorem dL_rank_130 : decode cL_rank 130 = .ok (.getfield 129, 3) := by decide +kernel
theorem dL_rank_133 : decode cL_rank 133 = .ok (.i2l, 1) := by decide +kernel
theorem dL_rank_134 : decode cL_rank 134 = .ok (.ladd, 1) := by decide +kernel
theorem dL_rank_135 : decode cL_rank 135 = .ok (.ldc2_w 213, 3) := by decide +kernel
theorem dL_rank_138 : decode cL_rank 138 = .ok (.lmul, 1) := by decide +kernel
theorem dL_rank_139 : decode cL_rank 139 = .ok (.aload_n 1, 1) := by decide +kernel
theorem dL_rank_140 : decode cL_rank 140 = .ok (.getfield 109, 3) := by decide +kernel
theorem dL_rank_143 : decode cL_rank 143 = .ok (.i2l, 1) := by decide +kernel
theorem dL_rank_144 : decode cL_rank 144 = .ok (.ladd, 1) := by decide +kernel
theorem dL_rank_145 : decode cL_rank 145 = .ok (.lreturn, 1) := by decide +kernel
theorem dL_sorted_0 : decode cL_sorted 0 = .ok (.new 27, 3) := by decide +kernel
theorem dL_sorted_3 : decode cL_sorted 3 = .ok (.dup, 1) := by decide +kernel
theorem dL_sorted_4 : decode cL_sorted 4 = .ok (.invokespecial 29, 3) := by decide +kernel
theorem dL_sorted_7 : decode cL_sorted 7 = .ok (.astore_n 3, 1) := by decide +kernel
theorem dL_sorted_8 : decode cL_sorted 8 = .ok (.aload_n 1, 1) := by decide +kernel
theorem dL_sorted_9 : decode cL_sorted 9 = .ok (.invokeinterface 157 1, 5) := by decide +kernel
theorem dL_sorted_14 : decode cL_sorted 14 = .ok (.astore 4, 2) := by decide +kernel
theorem dL_sorted_16 : decode cL_sorted 16 = .ok (.aload 4, 2) := by decide +kernel
theorem dL_sorted_18 : decode cL_sorted 18 = .ok (.invokeinterface 161 1, 5) := by decide +kernel
theorem dL_sorted_23 : decode cL_sorted 23 = .ok (.ifCond .eq 75, 3) := by decide +kernel
theorem dL_sorted_26 : decode cL_sorted 26 = .ok (.aload 4, 2) := by decide +kernel
theorem dL_sorted_28 : decode cL_sorted 28 = .ok (.invokeinterface 167 1, 5) := by decide +kernel
theorem dL_sorted_33 : decode cL_sorted 33 = .ok (.checkcast 103, 3) := by decide +kernel
theorem dL_sorted_36 : decode cL_sorted 36 = .ok (.astore 5, 2) := by decide +kernel
theorem dL_sorted_38 : decode cL_sorted 38 = .ok (.iconst 0, 1) := by decide +kernel
theorem dL_sorted_39 : decode cL_sorted 39 = .ok (.istore 6, 2) := by decide +kernel
theorem dL_sorted_41 : decode cL_sorted 41 = .ok (.iload 6, 2) := by decide +kernel
theorem dL_sorted_43 : decode cL_sorted 43 = .ok (.aload_n 3, 1) := by decide +kernel
theorem dL_sorted_44 : decode cL_sorted 44 = .ok (.invokeinterface 106 1, 5) := by decide +kernel
theorem dL_sorted_49 : decode cL_sorted 49 = .ok (.if_icmp .ge 36, 3) := by decide +kernel
theorem dL_sorted_52 : decode cL_sorted 52 = .ok (.aload_n 0, 1) := by decide +kernel
theorem dL_sorted_53 : decode cL_sorted 53 = .ok (.aload_n 3, 1) := by decide +kernel
theorem dL_sorted_54 : decode cL_sorted 54 = .ok (.iload 6, 2) := by decide +kernel
theorem dL_sorted_56 : decode cL_sorted 56 = .ok (.invokeinterface 199 2, 5) := by decide +kernel
theorem dL_sorted_61 : decode cL_sorted 61 = .ok (.checkcast 103, 3) := by decide +kernel
theorem dL_sorted_64 : decode cL_sorted 64 = .ok (.aload_n 2, 1) := by decide +kernel
theorem dL_sorted_65 : decode cL_sorted 65 = .ok (.invokevirtual 215, 3) := by decide +kernel
theorem dL_sorted_68 : decode cL_sorted 68 = .ok (.aload_n 0, 1) := by decide +kernel
theorem dL_sorted_69 : decode cL_sorted 69 = .ok (.aload 5, 2) := by decide +kernel
theorem dL_sorted_71 : decode cL_sorted 71 = .ok (.aload_n 2, 1) := by decide +kernel
theorem dL_sorted_72 : decode cL_sorted 72 = .ok (.invokevirtual 215, 3) := by decide +kernel
theorem dL_sorted_75 : decode cL_sorted 75 = .ok (.lcmp, 1) := by decide +kernel
theorem dL_sorted_76 : decode cL_sorted 76 = .ok (.ifCond .ge 9, 3) := by decide +kernel
theorem dL_sorted_79 : decode cL_sorted 79 = .ok (.iinc 6 1, 3) := by decide +kernel
theorem dL_sorted_82 : decode cL_sorted 82 = .ok (.goto (-41), 3) := by decide +kernel
theorem dL_sorted_85 : decode cL_sorted 85 = .ok (.aload_n 3, 1) := by decide +kernel
theorem dL_sorted_86 : decode cL_sorted 86 = .ok (.iload 6, 2) := by decide +kernel
theorem dL_sorted_88 : decode cL_sorted 88 = .ok (.aload 5, 2) := by decide +kernel
theorem dL_sorted_90 : decode cL_sorted 90 = .ok (.invokeinterface 219 3, 5) := by decide +kernel
theorem dL_sorted_95 : decode cL_sorted 95 = .ok (.goto (-79), 3) := by decide +kernel
theorem dL_sorted_98 : decode cL_sorted 98 = .ok (.aload_n 3, 1) := by decide +kernel
theorem dL_sorted_99 : decode cL_sorted 99 = .ok (.areturn, 1) := by decide +kernel
theorem dL_holders_0 : decode cL_holders 0 = .ok (.new 27, 3) := by decide +kernel
theorem dL_holders_3 : decode cL_holders 3 = .ok (.dup, 1) := by decide +kernel
theorem dL_holders_4 : decode cL_holders 4 = .ok (.invokespecial 29, 3) := by decide +kernel
theorem dL_holders_7 : decode cL_holders 7 = .ok (.astore_n 2, 1) := by decide +kernel
theorem dL_holders_8 : decode cL_holders 8 = .ok (.aload_n 0, 1) := by decide +kernel
theorem dL_holders_9 : decode cL_holders 9 = .ok (.getfield 36, 3) := by decide +kernel
theorem dL_holders_12 : decode cL_holders 12 = .ok (.invokeinterface 157 1, 5) := by decide +kernel
theorem dL_holders_17 : decode cL_holders 17 = .ok (.astore_n 3, 1) := by decide +kernel
theorem dL_holders_18 : decode cL_holders 18 = .ok (.aload_n 3, 1) := by decide +kernel
theorem dL_holders_19 : decode cL_holders 19 = .ok (.invokeinterface 161 1, 5) := by decide +kernel
theorem dL_holders_24 : decode cL_holders 24 = .ok (.ifCond .eq 38, 3) := by decide +kernel
theorem dL_holders_27 : decode cL_holders 27 = .ok (.aload_n 3, 1) := by decide +kernel
theorem dL_holders_28 : decode cL_holders 28 = .ok (.invokeinterface 167 1, 5) := by decide +kernel
theorem dL_holders_33 : decode cL_holders 33 = .ok (.checkcast 103, 3) := by decide +kernel
theorem dL_holders_36 : decode cL_holders 36 = .ok (.astore 4, 2) := by decide +kernel
theorem dL_holders_38 : decode cL_holders 38 = .ok (.aload 4, 2) := by decide +kernel
theorem dL_holders_40 : decode cL_holders 40 = .ok (.getfield 222, 3) := by decide +kernel
theorem dL_holders_43 : decode cL_holders 43 = .ok (.aload_n 1, 1) := by decide +kernel
theorem dL_holders_44 : decode cL_holders 44 = .ok (.getfield 63, 3) := by decide +kernel
theorem dL_holders_47 : decode cL_holders 47 = .ok (.if_icmp .ne 12, 3) := by decide +kernel
theorem dL_holders_50 : decode cL_holders 50 = .ok (.aload_n 2, 1) := by decide +kernel
theorem dL_holders_51 : decode cL_holders 51 = .ok (.aload 4, 2) := by decide +kernel
theorem dL_holders_53 : decode cL_holders 53 = .ok (.invokeinterface 90 2, 5) := by decide +kernel
theorem dL_holders_58 : decode cL_holders 58 = .ok (.pop, 1) := by decide +kernel
theorem dL_holders_59 : decode cL_holders 59 = .ok (.goto (-41), 3) := by decide +kernel
theorem dL_holders_62 : decode cL_holders 62 = .ok (.aload_n 0, 1) := by decide +kernel
theorem dL_holders_63 : decode cL_holders 63 = .ok (.aload_n 2, 1) := by decide +kernel
theorem dL_holders_64 : decode cL_holders 64 = .ok (.aload_n 1, 1) := by decide +kernel
theorem dL_holders_65 : decode cL_holders 65 = .ok (.invokevirtual 225, 3) := by decide +kernel
theorem dL_holders_68 : decode cL_holders 68 = .ok (.areturn, 1) := by decide +kernel
theorem dL_waiting_0 : decode cL_waiting 0 = .ok (.new 27, 3) := by decide +kernel
theorem dL_waiting_3 : decode cL_waiting 3 = .ok (.dup, 1) := by decide +kernel
theorem dL_waiting_4 : decode cL_waiting 4 = .ok (.invokespecial 29, 3) := by decide +kernel
theorem dL_waiting_7 : decode cL_waiting 7 = .ok (.astore_n 2, 1) := by decide +kernel
theorem dL_waiting_8 : decode cL_waiting 8 = .ok (.aload_n 0, 1) := by decide +kernel
theorem dL_waiting_9 : decode cL_waiting 9 = .ok (.getfield 36, 3) := by decide +kernel
theorem dL_waiting_12 : decode cL_waiting 12 = .ok (.invokeinterface 157 1, 5) := by decide +kernel
theorem dL_waiting_17 : decode cL_waiting 17 = .ok (.astore_n 3, 1) := by decide +kernel
theorem dL_waiting_18 : decode cL_waiting 18 = .ok (.aload_n 3, 1) := by decide +kernel
theorem dL_waiting_19 : decode cL_waiting 19 = .ok (.invokeinterface 161 1, 5) := by decide +kernel
theorem dL_waiting_24 : decode cL_waiting 24 = .ok (.ifCond .eq 36, 3) := by decide +kernel
theorem dL_waiting_27 : decode cL_waiting 27 = .ok (.aload_n 3, 1) := by decide +kernel
theorem dL_waiting_28 : decode cL_waiting 28 = .ok (.invokeinterface 167 1, 5) := by decide +kernel
theorem dL_waiting_33 : decode cL_waiting 33 = .ok (.checkcast 103, 3) := by decide +kernel
theorem dL_waiting_36 : decode cL_waiting 36 = .ok (.astore 4, 2) := by decide +kernel
theorem dL_waiting_38 : decode cL_waiting 38 = .ok (.aload_n 0, 1) := by decide +kernel
theorem dL_waiting_39 : decode cL_waiting 39 = .ok (.aload 4, 2) := by decide +kernel
theorem dL_waiting_41 : decode cL_waiting 41 = .ok (.aload_n 1, 1) := by decide +kernel
theorem dL_waiting_42 : decode cL_waiting 42 = .ok (.invokevirtual 229, 3) := by decide +kernel
theorem dL_waiting_45 : decode cL_waiting 45 = .ok (.ifCond .eq 12, 3) := by decide +kernel
theorem dL_waiting_48 : decode cL_waiting 48 = .ok (.aload_n 2, 1) := by decide +kernel
theorem dL_waiting_49 : decode cL_waiting 49 = .ok (.aload 4, 2) := by decide +kernel
theorem dL_waiting_51 : decode cL_waiting 51 = .ok (.invokeinterface 90 2, 5) := by decide +kernel
theorem dL_waiting_56 : decode cL_waiting 56 = .ok (.pop, 1) := by decide +kernel
theorem dL_waiting_57 : decode cL_waiting 57 = .ok (.goto (-39), 3) := by decide +kernel
theorem dL_waiting_60 : decode cL_waiting 60 = .ok (.aload_n 0, 1) := by decide +kernel
theorem dL_waiting_61 : decode cL_waiting 61 = .ok (.aload_n 2, 1) := by decide +kernel
theorem dL_waiting_62 : decode cL_waiting 62 = .ok (.aload_n 1, 1) := by decide +kernel
theorem dL_waiting_63 : decode cL_waiting 63 = .ok (.invokevirtual 225, 3) := by decide +kernel
theorem dL_waiting_66 : decode cL_waiting 66 = .ok (.areturn, 1) := by decide +kernel
theorem dL_waits_0 : decode cL_waits 0 = .ok (.aload_n 1, 1) := by decide +kernel
theorem dL_waits_1 : decode cL_waits 1 = .ok (.getfield 124, 3) := by decide +kernel
theorem dL_waits_4 : decode cL_waits 4 = .ok (.aload_n 2, 1) := by decide +kernel
theorem dL_waits_5 : decode cL_waits 5 = .ok (.getfield 63, 3) := by decide +kernel
theorem dL_waits_8 : decode cL_waits 8 = .ok (.invokestatic 78, 3) := by decide +kernel
theorem dL_waits_11 : decode cL_waits 11 = .ok (.invokeinterface 233 2, 5) := by decide +kernel
theorem dL_waits_16 : decode cL_waits 16 = .ok (.istore_n 3, 1) := by decide +kernel
theorem dL_waits_17 : decode cL_waits 17 = .ok (.aload_n 0, 1) := by decide +kernel
theorem dL_waits_18 : decode cL_waits 18 = .ok (.getfield 119, 3) := by decide +kernel
theorem dL_waits_21 : decode cL_waits 21 = .ok (.ifCond .eq 33, 3) := by decide +kernel
theorem dL_waits_24 : decode cL_waits 24 = .ok (.aload_n 1, 1) := by decide +kernel
theorem dL_waits_25 : decode cL_waits 25 = .ok (.getfield 237, 3) := by decide +kernel
theorem dL_waits_28 : decode cL_waits 28 = .ok (.ifCond .ne 26, 3) := by decide +kernel
theorem dL_waits_31 : decode cL_waits 31 = .ok (.iload_n 3, 1) := by decide +kernel
theorem dL_waits_32 : decode cL_waits 32 = .ok (.ifCond .lt 22, 3) := by decide +kernel
theorem dL_waits_35 : decode cL_waits 35 = .ok (.aload_n 1, 1) := by decide +kernel
theorem dL_waits_36 : decode cL_waits 36 = .ok (.getfield 222, 3) := by decide +kernel
theorem dL_waits_39 : decode cL_waits 39 = .ok (.ifCond .lt 11, 3) := by decide +kernel
theorem dL_waits_42 : decode cL_waits 42 = .ok (.iload_n 3, 1) := by decide +kernel
theorem dL_waits_43 : decode cL_waits 43 = .ok (.aload_n 1, 1) := by decide +kernel
theorem dL_waits_44 : decode cL_waits 44 = .ok (.invokevirtual 240, 3) := by decide +kernel
theorem dL_waits_47 : decode cL_waits 47 = .ok (.if_icmp .ge 7, 3) := by decide +kernel
theorem dL_waits_50 : decode cL_waits 50 = .ok (.iconst 1, 1) := by decide +kernel
theorem dL_waits_51 : decode cL_waits 51 = .ok (.goto 4, 3) := by decide +kernel
theorem dL_waits_54 : decode cL_waits 54 = .ok (.iconst 0, 1) := by decide +kernel
theorem dL_waits_55 : decode cL_waits 55 = .ok (.ireturn, 1) := by decide +kernel
theorem dL_allocate_0 : decode cL_allocate 0 = .ok (.aload_n 0, 1) := by decide +kernel
theorem dL_allocate_1 : decode cL_allocate 1 = .ok (.iconst 1, 1) := by decide +kernel
theorem dL_allocate_2 : decode cL_allocate 2 = .ok (.putfield 119, 3) := by decide +kernel
theorem dL_allocate_5 : decode cL_allocate 5 = .ok (.aload_n 0, 1) := by decide +kernel
theorem dL_allocate_6 : decode cL_allocate 6 = .ok (.iconst 0, 1) := by decide +kernel
theorem dL_allocate_7 : decode cL_allocate 7 = .ok (.putfield 243, 3) := by decide +kernel
theorem dL_allocate_10 : decode cL_allocate 10 = .ok (.aload_n 0, 1) := by decide +kernel
theorem dL_allocate_11 : decode cL_allocate 11 = .ok (.getfield 36, 3) := by decide +kernel
theorem dL_allocate_14 : decode cL_allocate 14 = .ok (.invokeinterface 106 1, 5) := by decide +kernel
theorem dL_allocate_19 : decode cL_allocate 19 = .ok (.newarray .int, 2) := by decide +kernel
theorem dL_allocate_21 : decode cL_allocate 21 = .ok (.astore_n 1, 1) := by decide +kernel
theorem dL_allocate_22 : decode cL_allocate 22 = .ok (.aload_n 0, 1) := by decide +kernel
theorem dL_allocate_23 : decode cL_allocate 23 = .ok (.getfield 36, 3) := by decide +kernel
theorem dL_allocate_26 : decode cL_allocate 26 = .ok (.invokeinterface 157 1, 5) := by decide +kernel
theorem dL_allocate_31 : decode cL_allocate 31 = .ok (.astore_n 2, 1) := by decide +kernel
theorem dL_allocate_32 : decode cL_allocate 32 = .ok (.aload_n 2, 1) := by decide +kernel
theorem dL_allocate_33 : decode cL_allocate 33 = .ok (.invokeinterface 161 1, 5) := by decide +kernel
theorem dL_allocate_38 : decode cL_allocate 38 = .ok (.ifCond .eq 26, 3) := by decide +kernel
theorem dL_allocate_41 : decode cL_allocate 41 = .ok (.aload_n 2, 1) := by decide +kernel
theorem dL_allocate_42 : decode cL_allocate 42 = .ok (.invokeinterface 167 1, 5) := by decide +kernel
theorem dL_allocate_47 : decode cL_allocate 47 = .ok (.checkcast 103, 3) := by decide +kernel
theorem dL_allocate_50 : decode cL_allocate 50 = .ok (.astore_n 3, 1) := by decide +kernel
theorem dL_allocate_51 : decode cL_allocate 51 = .ok (.aload_n 3, 1) := by decide +kernel
theorem dL_allocate_52 : decode cL_allocate 52 = .ok (.iconst (-1), 1) := by decide +kernel
theorem dL_allocate_53 : decode cL_allocate 53 = .ok (.putfield 222, 3) := by decide +kernel
theorem dL_allocate_56 : decode cL_allocate 56 = .ok (.aload_n 3, 1) := by decide +kernel
theorem dL_allocate_57 : decode cL_allocate 57 = .ok (.iconst 0, 1) := by decide +kernel
theorem dL_allocate_58 : decode cL_allocate 58 = .ok (.putfield 246, 3) := by decide +kernel
theorem dL_allocate_61 : decode cL_allocate 61 = .ok (.goto (-29), 3) := by decide +kernel
theorem dL_allocate_64 : decode cL_allocate 64 = .ok (.aload_n 0, 1) := by decide +kernel
theorem dL_allocate_65 : decode cL_allocate 65 = .ok (.getfield 30, 3) := by decide +kernel
theorem dL_allocate_68 : decode cL_allocate 68 = .ok (.invokeinterface 157 1, 5) := by decide +kernel
theorem dL_allocate_73 : decode cL_allocate 73 = .ok (.astore_n 2, 1) := by decide +kernel
theorem dL_allocate_74 : decode cL_allocate 74 = .ok (.aload_n 2, 1) := by decide +kernel
theorem dL_allocate_75 : decode cL_allocate 75 = .ok (.invokeinterface 161 1, 5) := by decide +kernel
theorem dL_allocate_80 : decode cL_allocate 80 = .ok (.ifCond .eq 21, 3) := by decide +kernel
theorem dL_allocate_83 : decode cL_allocate 83 = .ok (.aload_n 2, 1) := by decide +kernel
theorem dL_allocate_84 : decode cL_allocate 84 = .ok (.invokeinterface 167 1, 5) := by decide +kernel
theorem dL_allocate_89 : decode cL_allocate 89 = .ok (.checkcast 60, 3) := by decide +kernel
theorem dL_allocate_92 : decode cL_allocate 92 = .ok (.astore_n 3, 1) := by decide +kernel
theorem dL_allocate_93 : decode cL_allocate 93 = .ok (.aload_n 3, 1) := by decide +kernel
theorem dL_allocate_94 : decode cL_allocate 94 = .ok (.iconst 0, 1) := by decide +kernel
theorem dL_allocate_95 : decode cL_allocate 95 = .ok (.putfield 249, 3) := by decide +kernel
theorem dL_allocate_98 : decode cL_allocate 98 = .ok (.goto (-24), 3) := by decide +kernel
theorem dL_allocate_101 : decode cL_allocate 101 = .ok (.new 27, 3) := by decide +kernel
theorem dL_allocate_104 : decode cL_allocate 104 = .ok (.dup, 1) := by decide +kernel
theorem dL_allocate_105 : decode cL_allocate 105 = .ok (.aload_n 0, 1) := by decide +kernel
theorem dL_allocate_106 : decode cL_allocate 106 = .ok (.getfield 36, 3) := by decide +kernel
theorem dL_allocate_109 : decode cL_allocate 109 = .ok (.invokespecial 252, 3) := by decide +kernel
theorem dL_allocate_112 : decode cL_allocate 112 = .ok (.astore_n 2, 1) := by decide +kernel
theorem dL_allocate_113 : decode cL_allocate 113 = .ok (.aload_n 2, 1) := by decide +kernel
theorem dL_allocate_114 : decode cL_allocate 114 = .ok (.invokeinterface 255 1, 5) := by decide +kernel
theorem dL_allocate_119 : decode cL_allocate 119 = .ok (.ifCond .ne 168, 3) := by decide +kernel
theorem dL_allocate_122 : decode cL_allocate 122 = .ok (.aload_n 2, 1) := by decide +kernel
theorem dL_allocate_123 : decode cL_allocate 123 = .ok (.aload_n 2, 1) := by decide +kernel
theorem dL_allocate_124 : decode cL_allocate 124 = .ok (.invokeinterface 106 1, 5) := by decide +kernel
theorem dL_allocate_129 : decode cL_allocate 129 = .ok (.iconst 1, 1) := by decide +kernel
theorem dL_allocate_130 : decode cL_allocate 130 = .ok (.isub, 1) := by decide +kernel
theorem dL_allocate_131 : decode cL_allocate 131 = .ok (.invokeinterface 258 2, 5) := by decide +kernel
theorem dL_allocate_136 : decode cL_allocate 136 = .ok (.checkcast 103, 3) := by decide +kernel
theorem dL_allocate_139 : decode cL_allocate 139 = .ok (.astore_n 3, 1) := by decide +kernel
theorem dL_allocate_140 : decode cL_allocate 140 = .ok (.aload_n 3, 1) := by decide +kernel
theorem dL_allocate_141 : decode cL_allocate 141 = .ok (.getfield 237, 3) := by decide +kernel
theorem dL_allocate_144 : decode cL_allocate 144 = .ok (.ifCond .ne (-31), 3) := by decide +kernel
theorem dL_allocate_147 : decode cL_allocate 147 = .ok (.aload_n 1, 1) := by decide +kernel
theorem dL_allocate_148 : decode cL_allocate 148 = .ok (.aload_n 3, 1) := by decide +kernel
theorem dL_allocate_149 : decode cL_allocate 149 = .ok (.getfield 109, 3) := by decide +kernel
theorem dL_allocate_152 : decode cL_allocate 152 = .ok (.iaload, 1) := by decide +kernel
theorem dL_allocate_153 : decode cL_allocate 153 = .ok (.aload_n 3, 1) := by decide +kernel
theorem dL_allocate_154 : decode cL_allocate 154 = .ok (.getfield 124, 3) := by decide +kernel
theorem dL_allocate_157 : decode cL_allocate 157 = .ok (.invokeinterface 106 1, 5) := by decide +kernel
theorem dL_allocate_162 : decode cL_allocate 162 = .ok (.if_icmp .ne 6, 3) := by decide +kernel
theorem dL_allocate_165 : decode cL_allocate 165 = .ok (.goto (-52), 3) := by decide +kernel
theorem dL_allocate_168 : decode cL_allocate 168 = .ok (.aload_n 0, 1) := by decide +kernel
theorem dL_allocate_169 : decode cL_allocate 169 = .ok (.getfield 30, 3) := by decide +kernel
theorem dL_allocate_172 : decode cL_allocate 172 = .ok (.aload_n 3, 1) := by decide +kernel
theorem dL_allocate_173 : decode cL_allocate 173 = .ok (.getfield 124, 3) := by decide +kernel
theorem dL_allocate_176 : decode cL_allocate 176 = .ok (.aload_n 1, 1) := by decide +kernel
theorem dL_allocate_177 : decode cL_allocate 177 = .ok (.aload_n 3, 1) := by decide +kernel
theorem dL_allocate_178 : decode cL_allocate 178 = .ok (.getfield 109, 3) := by decide +kernel
theorem dL_allocate_181 : decode cL_allocate 181 = .ok (.iaload, 1) := by decide +kernel
theorem dL_allocate_182 : decode cL_allocate 182 = .ok (.invokeinterface 199 2, 5) := by decide +kernel
theorem dL_allocate_187 : decode cL_allocate 187 = .ok (.checkcast 79, 3) := by decide +kernel
theorem dL_allocate_190 : decode cL_allocate 190 = .ok (.invokevirtual 176, 3) := by decide +kernel
theorem dL_allocate_193 : decode cL_allocate 193 = .ok (.invokeinterface 199 2, 5) := by decide +kernel
theorem dL_allocate_198 : decode cL_allocate 198 = .ok (.checkcast 60, 3) := by decide +kernel
theorem dL_allocate_201 : decode cL_allocate 201 = .ok (.astore 4, 2) := by decide +kernel
theorem dL_allocate_203 : decode cL_allocate 203 = .ok (.aload_n 1, 1) := by decide +kernel
theorem dL_allocate_204 : decode cL_allocate 204 = .ok (.aload_n 3, 1) := by decide +kernel
theorem dL_allocate_205 : decode cL_allocate 205 = .ok (.getfield 109, 3) := by decide +kernel
theorem dL_allocate_208 : decode cL_allocate 208 = .ok (.dup2, 1) := by decide +kernel
theorem dL_allocate_209 : decode cL_allocate 209 = .ok (.iaload, 1) := by decide +kernel
theorem dL_allocate_210 : decode cL_allocate 210 = .ok (.iconst 1, 1) := by decide +kernel
theorem dL_allocate_211 : decode cL_allocate 211 = .ok (.iadd, 1) := by decide +kernel
theorem dL_allocate_212 : decode cL_allocate 212 = .ok (.iastore, 1) := by decide +kernel
theorem dL_allocate_213 : decode cL_allocate 213 = .ok (.aload_n 3, 1) := by decide +kernel
theorem dL_allocate_214 : decode cL_allocate 214 = .ok (.aload 4, 2) := by decide +kernel
theorem dL_allocate_216 : decode cL_allocate 216 = .ok (.getfield 63, 3) := by decide +kernel
theorem dL_allocate_219 : decode cL_allocate 219 = .ok (.putfield 222, 3) := by decide +kernel
theorem dL_allocate_222 : decode cL_allocate 222 = .ok (.aload_n 0, 1) := by decide +kernel
theorem dL_allocate_223 : decode cL_allocate 223 = .ok (.aload 4, 2) := by decide +kernel
theorem dL_allocate_225 : decode cL_allocate 225 = .ok (.invokevirtual 261, 3) := by decide +kernel
theorem dL_allocate_228 : decode cL_allocate 228 = .ok (.astore 5, 2) := by decide +kernel
theorem dL_allocate_230 : decode cL_allocate 230 = .ok (.aload 5, 2) := by decide +kernel
theorem dL_allocate_232 : decode cL_allocate 232 = .ok (.invokeinterface 106 1, 5) := by decide +kernel
theorem dL_allocate_237 : decode cL_allocate 237 = .ok (.aload 4, 2) := by decide +kernel
theorem dL_allocate_239 : decode cL_allocate 239 = .ok (.getfield 66, 3) := by decide +kernel
theorem dL_allocate_242 : decode cL_allocate 242 = .ok (.if_icmp .gt 6, 3) := by decide +kernel
theorem dL_allocate_245 : decode cL_allocate 245 = .ok (.goto (-132), 3) := by decide +kernel
theorem dL_allocate_248 : decode cL_allocate 248 = .ok (.aload 5, 2) := by decide +kernel
theorem dL_allocate_250 : decode cL_allocate 250 = .ok (.aload 5, 2) := by decide +kernel
theorem dL_allocate_252 : decode cL_allocate 252 = .ok (.invokeinterface 106 1, 5) := by decide +kernel
theorem dL_allocate_257 : decode cL_allocate 257 = .ok (.iconst 1, 1) := by decide +kernel
theorem dL_allocate_258 : decode cL_allocate 258 = .ok (.isub, 1) := by decide +kernel
theorem dL_allocate_259 : decode cL_allocate 259 = .ok (.invokeinterface 199 2, 5) := by decide +kernel
theorem dL_allocate_264 : decode cL_allocate 264 = .ok (.checkcast 103, 3) := by decide +kernel
theorem dL_allocate_267 : decode cL_allocate 267 = .ok (.astore 6, 2) := by decide +kernel
theorem dL_allocate_269 : decode cL_allocate 269 = .ok (.aload 6, 2) := by decide +kernel
theorem dL_allocate_271 : decode cL_allocate 271 = .ok (.iconst (-1), 1) := by decide +kernel
theorem dL_allocate_272 : decode cL_allocate 272 = .ok (.putfield 222, 3) := by decide +kernel
theorem dL_allocate_275 : decode cL_allocate 275 = .ok (.aload_n 2, 1) := by decide +kernel
theorem dL_allocate_276 : decode cL_allocate 276 = .ok (.aload 6, 2) := by decide +kernel
theorem dL_allocate_278 : decode cL_allocate 278 = .ok (.invokeinterface 90 2, 5) := by decide +kernel
theorem dL_allocate_283 : decode cL_allocate 283 = .ok (.pop, 1) := by decide +kernel
theorem dL_allocate_284 : decode cL_allocate 284 = .ok (.goto (-171), 3) := by decide +kernel
theorem dL_allocate_287 : decode cL_allocate 287 = .ok (.return_, 1) := by decide +kernel
theorem dL_fill_0 : decode cL_fill 0 = .ok (.aload_n 0, 1) := by decide +kernel
theorem dL_fill_1 : decode cL_fill 1 = .ok (.getfield 119, 3) := by decide +kernel
theorem dL_fill_4 : decode cL_fill 4 = .ok (.istore_n 1, 1) := by decide +kernel
theorem dL_fill_5 : decode cL_fill 5 = .ok (.iload_n 1, 1) := by decide +kernel
theorem dL_fill_6 : decode cL_fill 6 = .ok (.ifCond .eq 120, 3) := by decide +kernel
theorem dL_fill_9 : decode cL_fill 9 = .ok (.iconst 0, 1) := by decide +kernel
theorem dL_fill_10 : decode cL_fill 10 = .ok (.istore_n 1, 1) := by decide +kernel
theorem dL_fill_11 : decode cL_fill 11 = .ok (.aload_n 0, 1) := by decide +kernel
theorem dL_fill_12 : decode cL_fill 12 = .ok (.getfield 30, 3) := by decide +kernel
theorem dL_fill_15 : decode cL_fill 15 = .ok (.invokeinterface 157 1, 5) := by decide +kernel
theorem dL_fill_20 : decode cL_fill 20 = .ok (.astore_n 2, 1) := by decide +kernel
theorem dL_fill_21 : decode cL_fill 21 = .ok (.aload_n 2, 1) := by decide +kernel
theorem dL_fill_22 : decode cL_fill 22 = .ok (.invokeinterface 161 1, 5) := by decide +kernel
theorem dL_fill_27 : decode cL_fill 27 = .ok (.ifCond .eq 96, 3) := by decide +kernel
theorem dL_fill_30 : decode cL_fill 30 = .ok (.aload_n 2, 1) := by decide +kernel
theorem dL_fill_31 : decode cL_fill 31 = .ok (.invokeinterface 167 1, 5) := by decide +kernel
theorem dL_fill_36 : decode cL_fill 36 = .ok (.checkcast 60, 3) := by decide +kernel
theorem dL_fill_39 : decode cL_fill 39 = .ok (.astore_n 3, 1) := by decide +kernel
theorem dL_fill_40 : decode cL_fill 40 = .ok (.iload_n 1, 1) := by decide +kernel
theorem dL_fill_41 : decode cL_fill 41 = .ok (.ifCond .ne (-20), 3) := by decide +kernel
theorem dL_fill_44 : decode cL_fill 44 = .ok (.aload_n 0, 1) := by decide +kernel
theorem dL_fill_45 : decode cL_fill 45 = .ok (.aload_n 3, 1) := by decide +kernel
theorem dL_fill_46 : decode cL_fill 46 = .ok (.invokevirtual 261, 3) := by decide +kernel
theorem dL_fill_49 : decode cL_fill 49 = .ok (.invokeinterface 106 1, 5) := by decide +kernel
theorem dL_fill_54 : decode cL_fill 54 = .ok (.aload_n 3, 1) := by decide +kernel
theorem dL_fill_55 : decode cL_fill 55 = .ok (.getfield 66, 3) := by decide +kernel
theorem dL_fill_58 : decode cL_fill 58 = .ok (.if_icmp .ge (-37), 3) := by decide +kernel
theorem dL_fill_61 : decode cL_fill 61 = .ok (.aload_n 0, 1) := by decide +kernel
theorem dL_fill_62 : decode cL_fill 62 = .ok (.aload_n 3, 1) := by decide +kernel
theorem dL_fill_63 : decode cL_fill 63 = .ok (.invokevirtual 265, 3) := by decide +kernel
theorem dL_fill_66 : decode cL_fill 66 = .ok (.invokeinterface 255 1, 5) := by decide +kernel
theorem dL_fill_71 : decode cL_fill 71 = .ok (.ifCond .eq 6, 3) := by decide +kernel
theorem dL_fill_74 : decode cL_fill 74 = .ok (.goto (-53), 3) := by decide +kernel
theorem dL_fill_77 : decode cL_fill 77 = .ok (.aload_n 0, 1) := by decide +kernel
theorem dL_fill_78 : decode cL_fill 78 = .ok (.aload_n 3, 1) := by decide +kernel
theorem dL_fill_79 : decode cL_fill 79 = .ok (.invokevirtual 265, 3) := by decide +kernel
theorem dL_fill_82 : decode cL_fill 82 = .ok (.iconst 0, 1) := by decide +kernel
theorem dL_fill_83 : decode cL_fill 83 = .ok (.invokeinterface 199 2, 5) := by decide +kernel
theorem dL_fill_88 : decode cL_fill 88 = .ok (.checkcast 103, 3) := by decide +kernel
theorem dL_fill_91 : decode cL_fill 91 = .ok (.astore 4, 2) := by decide +kernel
theorem dL_fill_93 : decode cL_fill 93 = .ok (.aload 4, 2) := by decide +kernel
theorem dL_fill_95 : decode cL_fill 95 = .ok (.aload_n 3, 1) := by decide +kernel
theorem dL_fill_96 : decode cL_fill 96 = .ok (.getfield 63, 3) := by decide +kernel
theorem dL_fill_99 : decode cL_fill 99 = .ok (.putfield 222, 3) := by decide +kernel
theorem dL_fill_102 : decode cL_fill 102 = .ok (.aload 4, 2) := by decide +kernel
theorem dL_fill_104 : decode cL_fill 104 = .ok (.iconst 0, 1) := by decide +kernel
theorem dL_fill_105 : decode cL_fill 105 = .ok (.putfield 246, 3) := by decide +kernel
theorem dL_fill_108 : decode cL_fill 108 = .ok (.aload_n 0, 1) := by decide +kernel
theorem dL_fill_109 : decode cL_fill 109 = .ok (.dup, 1) := by decide +kernel
theorem dL_fill_110 : decode cL_fill 110 = .ok (.getfield 243, 3) := by decide +kernel
theorem dL_fill_113 : decode cL_fill 113 = .ok (.iconst 1, 1) := by decide +kernel
theorem dL_fill_114 : decode cL_fill 114 = .ok (.iadd, 1) := by decide +kernel
theorem dL_fill_115 : decode cL_fill 115 = .ok (.putfield 243, 3) := by decide +kernel
theorem dL_fill_118 : decode cL_fill 118 = .ok (.iconst 1, 1) := by decide +kernel
theorem dL_fill_119 : decode cL_fill 119 = .ok (.istore_n 1, 1) := by decide +kernel
theorem dL_fill_120 : decode cL_fill 120 = .ok (.goto (-99), 3) := by decide +kernel
theorem dL_fill_123 : decode cL_fill 123 = .ok (.goto (-118), 3) := by decide +kernel
theorem dL_fill_126 : decode cL_fill 126 = .ok (.return_, 1) := by decide +kernel
theorem dL_hasClaim_0 : decode cL_hasClaim 0 = .ok (.aload_n 0, 1) := by decide +kernel
theorem dL_hasClaim_1 : decode cL_hasClaim 1 = .ok (.aload_n 1, 1) := by decide +kernel
theorem dL_hasClaim_2 : decode cL_hasClaim 2 = .ok (.aload_n 2, 1) := by decide +kernel
theorem dL_hasClaim_3 : decode cL_hasClaim 3 = .ok (.invokevirtual 229, 3) := by decide +kernel
theorem dL_hasClaim_6 : decode cL_hasClaim 6 = .ok (.ifCond .ne 5, 3) := by decide +kernel
theorem dL_hasClaim_9 : decode cL_hasClaim 9 = .ok (.iconst 0, 1) := by decide +kernel
theorem dL_hasClaim_10 : decode cL_hasClaim 10 = .ok (.ireturn, 1) := by decide +kernel
theorem dL_hasClaim_11 : decode cL_hasClaim 11 = .ok (.aload_n 0, 1) := by decide +kernel
theorem dL_hasClaim_12 : decode cL_hasClaim 12 = .ok (.aload_n 2, 1) := by decide +kernel
theorem dL_hasClaim_13 : decode cL_hasClaim 13 = .ok (.invokevirtual 261, 3) := by decide +kernel
theorem dL_hasClaim_16 : decode cL_hasClaim 16 = .ok (.invokeinterface 157 1, 5) := by decide +kernel
theorem dL_hasClaim_21 : decode cL_hasClaim 21 = .ok (.astore_n 3, 1) := by decide +kernel
theorem dL_hasClaim_22 : decode cL_hasClaim 22 = .ok (.aload_n 3, 1) := by decide +kernel
theorem dL_hasClaim_23 : decode cL_hasClaim 23 = .ok (.invokeinterface 161 1, 5) := by decide +kernel
theorem dL_hasClaim_28 : decode cL_hasClaim 28 = .ok (.ifCond .eq 44, 3) := by decide +kernel
theorem dL_hasClaim_31 : decode cL_hasClaim 31 = .ok (.aload_n 3, 1) := by decide +kernel
theorem dL_hasClaim_32 : decode cL_hasClaim 32 = .ok (.invokeinterface 167 1, 5) := by decide +kernel
theorem dL_hasClaim_37 : decode cL_hasClaim 37 = .ok (.checkcast 103, 3) := by decide +kernel
theorem dL_hasClaim_40 : decode cL_hasClaim 40 = .ok (.astore 4, 2) := by decide +kernel
theorem dL_hasClaim_42 : decode cL_hasClaim 42 = .ok (.aload 4, 2) := by decide +kernel
theorem dL_hasClaim_44 : decode cL_hasClaim 44 = .ok (.getfield 246, 3) := by decide +kernel
theorem dL_hasClaim_47 : decode cL_hasClaim 47 = .ok (.ifCond .ne 22, 3) := by decide +kernel
theorem dL_hasClaim_50 : decode cL_hasClaim 50 = .ok (.aload_n 0, 1) := by decide +kernel
theorem dL_hasClaim_51 : decode cL_hasClaim 51 = .ok (.aload_n 1, 1) := by decide +kernel
theorem dL_hasClaim_52 : decode cL_hasClaim 52 = .ok (.aload_n 2, 1) := by decide +kernel
theorem dL_hasClaim_53 : decode cL_hasClaim 53 = .ok (.invokevirtual 215, 3) := by decide +kernel
theorem dL_hasClaim_56 : decode cL_hasClaim 56 = .ok (.aload_n 0, 1) := by decide +kernel
theorem dL_hasClaim_57 : decode cL_hasClaim 57 = .ok (.aload 4, 2) := by decide +kernel
theorem dL_hasClaim_59 : decode cL_hasClaim 59 = .ok (.aload_n 2, 1) := by decide +kernel
theorem dL_hasClaim_60 : decode cL_hasClaim 60 = .ok (.invokevirtual 215, 3) := by decide +kernel
theorem dL_hasClaim_63 : decode cL_hasClaim 63 = .ok (.lcmp, 1) := by decide +kernel
theorem dL_hasClaim_64 : decode cL_hasClaim 64 = .ok (.ifCond .ge 5, 3) := by decide +kernel
theorem dL_hasClaim_67 : decode cL_hasClaim 67 = .ok (.iconst 1, 1) := by decide +kernel
theorem dL_hasClaim_68 : decode cL_hasClaim 68 = .ok (.ireturn, 1) := by decide +kernel
theorem dL_hasClaim_69 : decode cL_hasClaim 69 = .ok (.goto (-47), 3) := by decide +kernel
theorem dL_hasClaim_72 : decode cL_hasClaim 72 = .ok (.iconst 0, 1) := by decide +kernel
theorem dL_hasClaim_73 : decode cL_hasClaim 73 = .ok (.ireturn, 1) := by decide +kernel
theorem dL_isSame_0 : decode cL_isSame 0 = .ok (.iconst 0, 1) := by decide +kernel
theorem dL_isSame_1 : decode cL_isSame 1 = .ok (.istore_n 2, 1) := by decide +kernel
theorem dL_isSame_2 : decode cL_isSame 2 = .ok (.iconst 0, 1) := by decide +kernel
theorem dL_isSame_3 : decode cL_isSame 3 = .ok (.istore_n 3, 1) := by decide +kernel
theorem dL_isSame_4 : decode cL_isSame 4 = .ok (.iconst 0, 1) := by decide +kernel
theorem dL_isSame_5 : decode cL_isSame 5 = .ok (.istore 4, 2) := by decide +kernel
theorem dL_isSame_7 : decode cL_isSame 7 = .ok (.aload_n 0, 1) := by decide +kernel
theorem dL_isSame_8 : decode cL_isSame 8 = .ok (.getfield 36, 3) := by decide +kernel
theorem dL_isSame_11 : decode cL_isSame 11 = .ok (.invokeinterface 157 1, 5) := by decide +kernel
theorem dL_isSame_16 : decode cL_isSame 16 = .ok (.astore 5, 2) := by decide +kernel
theorem dL_isSame_18 : decode cL_isSame 18 = .ok (.aload 5, 2) := by decide +kernel
theorem dL_isSame_20 : decode cL_isSame 20 = .ok (.invokeinterface 161 1, 5) := by decide +kernel
theorem dL_isSame_25 : decode cL_isSame 25 = .ok (.ifCond .eq 363, 3) := by decide +kernel
theorem dL_isSame_28 : decode cL_isSame 28 = .ok (.aload 5, 2) := by decide +kernel
theorem dL_isSame_30 : decode cL_isSame 30 = .ok (.invokeinterface 167 1, 5) := by decide +kernel
theorem dL_isSame_35 : decode cL_isSame 35 = .ok (.checkcast 103, 3) := by decide +kernel
theorem dL_isSame_38 : decode cL_isSame 38 = .ok (.astore 6, 2) := by decide +kernel
theorem dL_isSame_40 : decode cL_isSame 40 = .ok (.iload_n 3, 1) := by decide +kernel
theorem dL_isSame_41 : decode cL_isSame 41 = .ok (.aload 6, 2) := by decide +kernel
theorem dL_isSame_43 : decode cL_isSame 43 = .ok (.getfield 222, 3) := by decide +kernel
theorem dL_isSame_46 : decode cL_isSame 46 = .ok (.ifCond .lt 7, 3) := by decide +kernel
theorem dL_isSame_49 : decode cL_isSame 49 = .ok (.iconst 1, 1) := by decide +kernel
theorem dL_isSame_50 : decode cL_isSame 50 = .ok (.goto 4, 3) := by decide +kernel
theorem dL_isSame_53 : decode cL_isSame 53 = .ok (.iconst 0, 1) := by decide +kernel
theorem dL_isSame_54 : decode cL_isSame 54 = .ok (.iadd, 1) := by decide +kernel
theorem dL_isSame_55 : decode cL_isSame 55 = .ok (.istore_n 3, 1) := by decide +kernel
theorem dL_isSame_56 : decode cL_isSame 56 = .ok (.iload 4, 2) := by decide +kernel
theorem dL_isSame_58 : decode cL_isSame 58 = .ok (.aload 6, 2) := by decide +kernel
theorem dL_isSame_60 : decode cL_isSame 60 = .ok (.getfield 222, 3) := by decide +kernel
theorem dL_isSame_63 : decode cL_isSame 63 = .ok (.ifCond .lt 15, 3) := by decide +kernel
theorem dL_isSame_66 : decode cL_isSame 66 = .ok (.aload 6, 2) := by decide +kernel
theorem dL_isSame_68 : decode cL_isSame 68 = .ok (.invokevirtual 240, 3) := by decide +kernel
theorem dL_isSame_71 : decode cL_isSame 71 = .ok (.ifCond .ne 7, 3) := by decide +kernel
theorem dL_isSame_74 : decode cL_isSame 74 = .ok (.iconst 1, 1) := by decide +kernel
theorem dL_isSame_75 : decode cL_isSame 75 = .ok (.goto 4, 3) := by decide +kernel
theorem dL_isSame_78 : decode cL_isSame 78 = .ok (.iconst 0, 1) := by decide +kernel
theorem dL_isSame_79 : decode cL_isSame 79 = .ok (.iadd, 1) := by decide +kernel
theorem dL_isSame_80 : decode cL_isSame 80 = .ok (.istore 4, 2) := by decide +kernel
theorem dL_isSame_82 : decode cL_isSame 82 = .ok (.bipush 9, 2) := by decide +kernel
theorem dL_isSame_84 : decode cL_isSame 84 = .ok (.newarray .int, 2) := by decide +kernel
theorem dL_isSame_86 : decode cL_isSame 86 = .ok (.dup, 1) := by decide +kernel
theorem dL_isSame_87 : decode cL_isSame 87 = .ok (.iconst 0, 1) := by decide +kernel
theorem dL_isSame_88 : decode cL_isSame 88 = .ok (.aload 6, 2) := by decide +kernel
theorem dL_isSame_90 : decode cL_isSame 90 = .ok (.getfield 110, 3) := by decide +kernel
theorem dL_isSame_93 : decode cL_isSame 93 = .ok (.iastore, 1) := by decide +kernel
theorem dL_isSame_94 : decode cL_isSame 94 = .ok (.dup, 1) := by decide +kernel
theorem dL_isSame_95 : decode cL_isSame 95 = .ok (.iconst 1, 1) := by decide +kernel
theorem dL_isSame_96 : decode cL_isSame 96 = .ok (.aload 6, 2) := by decide +kernel
theorem dL_isSame_98 : decode cL_isSame 98 = .ok (.getfield 111, 3) := by decide +kernel
theorem dL_isSame_101 : decode cL_isSame 101 = .ok (.iastore, 1) := by decide +kernel
theorem dL_isSame_102 : decode cL_isSame 102 = .ok (.dup, 1) := by decide +kernel
theorem dL_isSame_103 : decode cL_isSame 103 = .ok (.iconst 2, 1) := by decide +kernel
theorem dL_isSame_104 : decode cL_isSame 104 = .ok (.aload 6, 2) := by decide +kernel
theorem dL_isSame_106 : decode cL_isSame 106 = .ok (.getfield 112, 3) := by decide +kernel
theorem dL_isSame_109 : decode cL_isSame 109 = .ok (.iastore, 1) := by decide +kernel
theorem dL_isSame_110 : decode cL_isSame 110 = .ok (.dup, 1) := by decide +kernel
theorem dL_isSame_111 : decode cL_isSame 111 = .ok (.iconst 3, 1) := by decide +kernel
theorem dL_isSame_112 : decode cL_isSame 112 = .ok (.aload 6, 2) := by decide +kernel
theorem dL_isSame_114 : decode cL_isSame 114 = .ok (.getfield 115, 3) := by decide +kernel
theorem dL_isSame_117 : decode cL_isSame 117 = .ok (.ifCond .eq 7, 3) := by decide +kernel
theorem dL_isSame_120 : decode cL_isSame 120 = .ok (.iconst 1, 1) := by decide +kernel
theorem dL_isSame_121 : decode cL_isSame 121 = .ok (.goto 4, 3) := by decide +kernel
theorem dL_isSame_124 : decode cL_isSame 124 = .ok (.iconst 0, 1) := by decide +kernel
theorem dL_isSame_125 : decode cL_isSame 125 = .ok (.iastore, 1) := by decide +kernel
theorem dL_isSame_126 : decode cL_isSame 126 = .ok (.dup, 1) := by decide +kernel
theorem dL_isSame_127 : decode cL_isSame 127 = .ok (.iconst 4, 1) := by decide +kernel
theorem dL_isSame_128 : decode cL_isSame 128 = .ok (.aload 6, 2) := by decide +kernel
theorem dL_isSame_130 : decode cL_isSame 130 = .ok (.getfield 129, 3) := by decide +kernel
theorem dL_isSame_133 : decode cL_isSame 133 = .ok (.iastore, 1) := by decide +kernel
theorem dL_isSame_134 : decode cL_isSame 134 = .ok (.dup, 1) := by decide +kernel
theorem dL_isSame_135 : decode cL_isSame 135 = .ok (.iconst 5, 1) := by decide +kernel
theorem dL_isSame_136 : decode cL_isSame 136 = .ok (.aload 6, 2) := by decide +kernel
theorem dL_isSame_138 : decode cL_isSame 138 = .ok (.getfield 124, 3) := by decide +kernel
theorem dL_isSame_141 : decode cL_isSame 141 = .ok (.invokeinterface 106 1, 5) := by decide +kernel
theorem dL_isSame_146 : decode cL_isSame 146 = .ok (.iastore, 1) := by decide +kernel
theorem dL_isSame_147 : decode cL_isSame 147 = .ok (.dup, 1) := by decide +kernel
theorem dL_isSame_148 : decode cL_isSame 148 = .ok (.bipush 6, 2) := by decide +kernel
theorem dL_isSame_150 : decode cL_isSame 150 = .ok (.aload 6, 2) := by decide +kernel
theorem dL_isSame_152 : decode cL_isSame 152 = .ok (.getfield 122, 3) := by decide +kernel
theorem dL_isSame_155 : decode cL_isSame 155 = .ok (.ifCond .eq 7, 3) := by decide +kernel
theorem dL_isSame_158 : decode cL_isSame 158 = .ok (.iconst 1, 1) := by decide +kernel
theorem dL_isSame_159 : decode cL_isSame 159 = .ok (.goto 4, 3) := by decide +kernel
theorem dL_isSame_162 : decode cL_isSame 162 = .ok (.iconst 0, 1) := by decide +kernel
theorem dL_isSame_163 : decode cL_isSame 163 = .ok (.iastore, 1) := by decide +kernel
theorem dL_isSame_164 : decode cL_isSame 164 = .ok (.dup, 1) := by decide +kernel
theorem dL_isSame_165 : decode cL_isSame 165 = .ok (.bipush 7, 2) := by decide +kernel
theorem dL_isSame_167 : decode cL_isSame 167 = .ok (.aload 6, 2) := by decide +kernel
theorem dL_isSame_169 : decode cL_isSame 169 = .ok (.getfield 237, 3) := by decide +kernel
theorem dL_isSame_172 : decode cL_isSame 172 = .ok (.ifCond .eq 7, 3) := by decide +kernel
theorem dL_isSame_175 : decode cL_isSame 175 = .ok (.iconst 1, 1) := by decide +kernel
theorem dL_isSame_176 : decode cL_isSame 176 = .ok (.goto 4, 3) := by decide +kernel
theorem dL_isSame_179 : decode cL_isSame 179 = .ok (.iconst 0, 1) := by decide +kernel
theorem dL_isSame_180 : decode cL_isSame 180 = .ok (.iastore, 1) := by decide +kernel
theorem dL_isSame_181 : decode cL_isSame 181 = .ok (.dup, 1) := by decide +kernel
theorem dL_isSame_182 : decode cL_isSame 182 = .ok (.bipush 8, 2) := by decide +kernel
theorem dL_isSame_184 : decode cL_isSame 184 = .ok (.aload 6, 2) := by decide +kernel
theorem dL_isSame_186 : decode cL_isSame 186 = .ok (.getfield 246, 3) := by decide +kernel
theorem dL_isSame_189 : decode cL_isSame 189 = .ok (.ifCond .eq 7, 3) := by decide +kernel
theorem dL_isSame_192 : decode cL_isSame 192 = .ok (.iconst 1, 1) := by decide +kernel
theorem dL_isSame_193 : decode cL_isSame 193 = .ok (.goto 4, 3) := by decide +kernel
theorem dL_isSame_196 : decode cL_isSame 196 = .ok (.iconst 0, 1) := by decide +kernel
theorem dL_isSame_197 : decode cL_isSame 197 = .ok (.iastore, 1) := by decide +kernel
theorem dL_isSame_198 : decode cL_isSame 198 = .ok (.astore 7, 2) := by decide +kernel
theorem dL_isSame_200 : decode cL_isSame 200 = .ok (.iconst 0, 1) := by decide +kernel
theorem dL_isSame_201 : decode cL_isSame 201 = .ok (.istore 8, 2) := by decide +kernel
theorem dL_isSame_203 : decode cL_isSame 203 = .ok (.iload 8, 2) := by decide +kernel
theorem dL_isSame_205 : decode cL_isSame 205 = .ok (.bipush 9, 2) := by decide +kernel
theorem dL_isSame_207 : decode cL_isSame 207 = .ok (.if_icmp .ge 30, 3) := by decide +kernel
theorem dL_isSame_210 : decode cL_isSame 210 = .ok (.aload_n 1, 1) := by decide +kernel
theorem dL_isSame_211 : decode cL_isSame 211 = .ok (.aload 6, 2) := by decide +kernel
theorem dL_isSame_213 : decode cL_isSame 213 = .ok (.getfield 109, 3) := by decide +kernel
theorem dL_isSame_216 : decode cL_isSame 216 = .ok (.iload 8, 2) := by decide +kernel
theorem dL_isSame_218 : decode cL_isSame 218 = .ok (.invokevirtual 268, 3) := by decide +kernel
theorem dL_isSame_221 : decode cL_isSame 221 = .ok (.aload 7, 2) := by decide +kernel
theorem dL_isSame_223 : decode cL_isSame 223 = .ok (.iload 8, 2) := by decide +kernel
theorem dL_isSame_225 : decode cL_isSame 225 = .ok (.iaload, 1) := by decide +kernel
theorem dL_isSame_226 : decode cL_isSame 226 = .ok (.if_icmp .eq 5, 3) := by decide +kernel
theorem dL_isSame_229 : decode cL_isSame 229 = .ok (.iconst 0, 1) := by decide +kernel
theorem dL_isSame_230 : decode cL_isSame 230 = .ok (.ireturn, 1) := by decide +kernel
theorem dL_isSame_231 : decode cL_isSame 231 = .ok (.iinc 8 1, 3) := by decide +kernel
theorem dL_isSame_234 : decode cL_isSame 234 = .ok (.goto (-31), 3) := by decide +kernel
theorem dL_isSame_237 : decode cL_isSame 237 = .ok (.aload_n 1, 1) := by decide +kernel
theorem dL_isSame_238 : decode cL_isSame 238 = .ok (.aload 6, 2) := by decide +kernel
theorem dL_isSame_240 : decode cL_isSame 240 = .ok (.getfield 109, 3) := by decide +kernel
theorem dL_isSame_243 : decode cL_isSame 243 = .ok (.invokevirtual 272, 3) := by decide +kernel
theorem dL_isSame_246 : decode cL_isSame 246 = .ok (.aload 6, 2) := by decide +kernel
theorem dL_isSame_248 : decode cL_isSame 248 = .ok (.getfield 222, 3) := by decide +kernel
theorem dL_isSame_251 : decode cL_isSame 251 = .ok (.if_icmp .ne 20, 3) := by decide +kernel
theorem dL_isSame_254 : decode cL_isSame 254 = .ok (.aload_n 1, 1) := by decide +kernel
theorem dL_isSame_255 : decode cL_isSame 255 = .ok (.aload 6, 2) := by decide +kernel
theorem dL_isSame_257 : decode cL_isSame 257 = .ok (.getfield 109, 3) := by decide +kernel
theorem dL_isSame_260 : decode cL_isSame 260 = .ok (.invokevirtual 276, 3) := by decide +kernel
theorem dL_isSame_263 : decode cL_isSame 263 = .ok (.aload 6, 2) := by decide +kernel
theorem dL_isSame_265 : decode cL_isSame 265 = .ok (.invokevirtual 240, 3) := by decide +kernel
theorem dL_isSame_268 : decode cL_isSame 268 = .ok (.if_icmp .eq 5, 3) := by decide +kernel
theorem dL_isSame_271 : decode cL_isSame 271 = .ok (.iconst 0, 1) := by decide +kernel
theorem dL_isSame_272 : decode cL_isSame 272 = .ok (.ireturn, 1) := by decide +kernel
theorem dL_isSame_273 : decode cL_isSame 273 = .ok (.aload_n 0, 1) := by decide +kernel
theorem dL_isSame_274 : decode cL_isSame 274 = .ok (.getfield 30, 3) := by decide +kernel
theorem dL_isSame_277 : decode cL_isSame 277 = .ok (.invokeinterface 157 1, 5) := by decide +kernel
theorem dL_isSame_282 : decode cL_isSame 282 = .ok (.astore 8, 2) := by decide +kernel
theorem dL_isSame_284 : decode cL_isSame 284 = .ok (.aload 8, 2) := by decide +kernel
theorem dL_isSame_286 : decode cL_isSame 286 = .ok (.invokeinterface 161 1, 5) := by decide +kernel
theorem dL_isSame_291 : decode cL_isSame 291 = .ok (.ifCond .eq 94, 3) := by decide +kernel
theorem dL_isSame_294 : decode cL_isSame 294 = .ok (.aload 8, 2) := by decide +kernel
theorem dL_isSame_296 : decode cL_isSame 296 = .ok (.invokeinterface 167 1, 5) := by decide +kernel
theorem dL_isSame_301 : decode cL_isSame 301 = .ok (.checkcast 60, 3) := by decide +kernel
theorem dL_isSame_304 : decode cL_isSame 304 = .ok (.astore 9, 2) := by decide +kernel
theorem dL_isSame_306 : decode cL_isSame 306 = .ok (.iload_n 2, 1) := by decide +kernel
theorem dL_isSame_307 : decode cL_isSame 307 = .ok (.aload_n 0, 1) := by decide +kernel
theorem dL_isSame_308 : decode cL_isSame 308 = .ok (.aload 6, 2) := by decide +kernel
theorem dL_isSame_310 : decode cL_isSame 310 = .ok (.aload 9, 2) := by decide +kernel
theorem dL_isSame_312 : decode cL_isSame 312 = .ok (.invokevirtual 279, 3) := by decide +kernel
theorem dL_isSame_315 : decode cL_isSame 315 = .ok (.ifCond .eq 7, 3) := by decide +kernel
theorem dL_isSame_318 : decode cL_isSame 318 = .ok (.iconst 1, 1) := by decide +kernel
theorem dL_isSame_319 : decode cL_isSame 319 = .ok (.goto 4, 3) := by decide +kernel
theorem dL_isSame_322 : decode cL_isSame 322 = .ok (.iconst 0, 1) := by decide +kernel
theorem dL_isSame_323 : decode cL_isSame 323 = .ok (.iadd, 1) := by decide +kernel
theorem dL_isSame_324 : decode cL_isSame 324 = .ok (.istore_n 2, 1) := by decide +kernel
theorem dL_isSame_325 : decode cL_isSame 325 = .ok (.aload_n 1, 1) := by decide +kernel
theorem dL_isSame_326 : decode cL_isSame 326 = .ok (.aload 6, 2) := by decide +kernel
theorem dL_isSame_328 : decode cL_isSame 328 = .ok (.getfield 109, 3) := by decide +kernel
theorem dL_isSame_331 : decode cL_isSame 331 = .ok (.aload 9, 2) := by decide +kernel
theorem dL_isSame_333 : decode cL_isSame 333 = .ok (.getfield 63, 3) := by decide +kernel
theorem dL_isSame_336 : decode cL_isSame 336 = .ok (.invokevirtual 282, 3) := by decide +kernel
theorem dL_isSame_339 : decode cL_isSame 339 = .ok (.aload_n 0, 1) := by decide +kernel
theorem dL_isSame_340 : decode cL_isSame 340 = .ok (.aload 6, 2) := by decide +kernel
theorem dL_isSame_342 : decode cL_isSame 342 = .ok (.aload 9, 2) := by decide +kernel
theorem dL_isSame_344 : decode cL_isSame 344 = .ok (.invokevirtual 279, 3) := by decide +kernel
theorem dL_isSame_347 : decode cL_isSame 347 = .ok (.if_icmp .ne 33, 3) := by decide +kernel
theorem dL_isSame_350 : decode cL_isSame 350 = .ok (.aload_n 1, 1) := by decide +kernel
theorem dL_isSame_351 : decode cL_isSame 351 = .ok (.aload 6, 2) := by decide +kernel
theorem dL_isSame_353 : decode cL_isSame 353 = .ok (.getfield 109, 3) := by decide +kernel
theorem dL_isSame_356 : decode cL_isSame 356 = .ok (.aload 9, 2) := by decide +kernel
theorem dL_isSame_358 : decode cL_isSame 358 = .ok (.getfield 63, 3) := by decide +kernel
theorem dL_isSame_361 : decode cL_isSame 361 = .ok (.invokevirtual 285, 3) := by decide +kernel
theorem dL_isSame_364 : decode cL_isSame 364 = .ok (.aload_n 0, 1) := by decide +kernel
theorem dL_isSame_365 : decode cL_isSame 365 = .ok (.aload 9, 2) := by decide +kernel
theorem dL_isSame_367 : decode cL_isSame 367 = .ok (.invokevirtual 265, 3) := by decide +kernel
theorem dL_isSame_370 : decode cL_isSame 370 = .ok (.aload 6, 2) := by decide +kernel
theorem dL_isSame_372 : decode cL_isSame 372 = .ok (.invokeinterface 233 2, 5) := by decide +kernel
theorem dL_isSame_377 : decode cL_isSame 377 = .ok (.if_icmp .eq 5, 3) := by decide +kernel
theorem dL_isSame_380 : decode cL_isSame 380 = .ok (.iconst 0, 1) := by decide +kernel
theorem dL_isSame_381 : decode cL_isSame 381 = .ok (.ireturn, 1) := by decide +kernel
theorem dL_isSame_382 : decode cL_isSame 382 = .ok (.goto (-98), 3) := by decide +kernel
theorem dL_isSame_385 : decode cL_isSame 385 = .ok (.goto (-367), 3) := by decide +kernel
theorem dL_isSame_388 : decode cL_isSame 388 = .ok (.aload_n 0, 1) := by decide +kernel
theorem dL_isSame_389 : decode cL_isSame 389 = .ok (.getfield 30, 3) := by decide +kernel
theorem dL_isSame_392 : decode cL_isSame 392 = .ok (.invokeinterface 157 1, 5) := by decide +kernel
theorem dL_isSame_397 : decode cL_isSame 397 = .ok (.astore 5, 2) := by decide +kernel
theorem dL_isSame_399 : decode cL_isSame 399 = .ok (.aload 5, 2) := by decide +kernel
theorem dL_isSame_401 : decode cL_isSame 401 = .ok (.invokeinterface 161 1, 5) := by decide +kernel
theorem dL_isSame_406 : decode cL_isSame 406 = .ok (.ifCond .eq 211, 3) := by decide +kernel
theorem dL_isSame_409 : decode cL_isSame 409 = .ok (.aload 5, 2) := by decide +kernel
theorem dL_isSame_411 : decode cL_isSame 411 = .ok (.invokeinterface 167 1, 5) := by decide +kernel
theorem dL_isSame_416 : decode cL_isSame 416 = .ok (.checkcast 60, 3) := by decide +kernel
theorem dL_isSame_419 : decode cL_isSame 419 = .ok (.astore 6, 2) := by decide +kernel
theorem dL_isSame_421 : decode cL_isSame 421 = .ok (.aload_n 0, 1) := by decide +kernel
theorem dL_isSame_422 : decode cL_isSame 422 = .ok (.aload 6, 2) := by decide +kernel
theorem dL_isSame_424 : decode cL_isSame 424 = .ok (.invokevirtual 261, 3) := by decide +kernel
theorem dL_isSame_427 : decode cL_isSame 427 = .ok (.astore 7, 2) := by decide +kernel
theorem dL_isSame_429 : decode cL_isSame 429 = .ok (.aload_n 1, 1) := by decide +kernel
theorem dL_isSame_430 : decode cL_isSame 430 = .ok (.aload 6, 2) := by decide +kernel
theorem dL_isSame_432 : decode cL_isSame 432 = .ok (.getfield 63, 3) := by decide +kernel
theorem dL_isSame_435 : decode cL_isSame 435 = .ok (.iconst 0, 1) := by decide +kernel
theorem dL_isSame_436 : decode cL_isSame 436 = .ok (.invokevirtual 288, 3) := by decide +kernel
theorem dL_isSame_439 : decode cL_isSame 439 = .ok (.aload 6, 2) := by decide +kernel
theorem dL_isSame_441 : decode cL_isSame 441 = .ok (.getfield 66, 3) := by decide +kernel
theorem dL_isSame_444 : decode cL_isSame 444 = .ok (.if_icmp .ne 116, 3) := by decide +kernel
theorem dL_isSame_447 : decode cL_isSame 447 = .ok (.aload_n 1, 1) := by decide +kernel
theorem dL_isSame_448 : decode cL_isSame 448 = .ok (.aload 6, 2) := by decide +kernel
theorem dL_isSame_450 : decode cL_isSame 450 = .ok (.getfield 63, 3) := by decide +kernel
theorem dL_isSame_453 : decode cL_isSame 453 = .ok (.bipush 6, 2) := by decide +kernel
theorem dL_isSame_455 : decode cL_isSame 455 = .ok (.invokevirtual 288, 3) := by decide +kernel
theorem dL_isSame_458 : decode cL_isSame 458 = .ok (.aload 7, 2) := by decide +kernel
theorem dL_isSame_460 : decode cL_isSame 460 = .ok (.invokeinterface 106 1, 5) := by decide +kernel
theorem dL_isSame_465 : decode cL_isSame 465 = .ok (.if_icmp .ne 95, 3) := by decide +kernel
theorem dL_isSame_468 : decode cL_isSame 468 = .ok (.aload_n 1, 1) := by decide +kernel
theorem dL_isSame_469 : decode cL_isSame 469 = .ok (.aload 6, 2) := by decide +kernel
theorem dL_isSame_471 : decode cL_isSame 471 = .ok (.getfield 63, 3) := by decide +kernel
theorem dL_isSame_474 : decode cL_isSame 474 = .ok (.bipush 8, 2) := by decide +kernel
theorem dL_isSame_476 : decode cL_isSame 476 = .ok (.invokevirtual 288, 3) := by decide +kernel
theorem dL_isSame_479 : decode cL_isSame 479 = .ok (.aload 6, 2) := by decide +kernel
theorem dL_isSame_481 : decode cL_isSame 481 = .ok (.getfield 249, 3) := by decide +kernel
theorem dL_isSame_484 : decode cL_isSame 484 = .ok (.if_icmp .ne 76, 3) := by decide +kernel
theorem dL_isSame_487 : decode cL_isSame 487 = .ok (.aload_n 1, 1) := by decide +kernel
theorem dL_isSame_488 : decode cL_isSame 488 = .ok (.aload 6, 2) := by decide +kernel
theorem dL_isSame_490 : decode cL_isSame 490 = .ok (.getfield 63, 3) := by decide +kernel
theorem dL_isSame_493 : decode cL_isSame 493 = .ok (.bipush 9, 2) := by decide +kernel
theorem dL_isSame_495 : decode cL_isSame 495 = .ok (.invokevirtual 288, 3) := by decide +kernel
theorem dL_isSame_498 : decode cL_isSame 498 = .ok (.aload_n 0, 1) := by decide +kernel
theorem dL_isSame_499 : decode cL_isSame 499 = .ok (.aload 6, 2) := by decide +kernel
theorem dL_isSame_501 : decode cL_isSame 501 = .ok (.invokevirtual 265, 3) := by decide +kernel
theorem dL_isSame_504 : decode cL_isSame 504 = .ok (.invokeinterface 106 1, 5) := by decide +kernel
theorem dL_isSame_509 : decode cL_isSame 509 = .ok (.if_icmp .ne 51, 3) := by decide +kernel
theorem dL_isSame_512 : decode cL_isSame 512 = .ok (.aload_n 1, 1) := by decide +kernel
theorem dL_isSame_513 : decode cL_isSame 513 = .ok (.aload 6, 2) := by decide +kernel
theorem dL_isSame_515 : decode cL_isSame 515 = .ok (.getfield 63, 3) := by decide +kernel
theorem dL_isSame_518 : decode cL_isSame 518 = .ok (.invokevirtual 291, 3) := by decide +kernel
theorem dL_isSame_521 : decode cL_isSame 521 = .ok (.aload 7, 2) := by decide +kernel
theorem dL_isSame_523 : decode cL_isSame 523 = .ok (.invokeinterface 255 1, 5) := by decide +kernel
theorem dL_isSame_528 : decode cL_isSame 528 = .ok (.ifCond .eq 7, 3) := by decide +kernel
theorem dL_isSame_531 : decode cL_isSame 531 = .ok (.iconst (-1), 1) := by decide +kernel
theorem dL_isSame_532 : decode cL_isSame 532 = .ok (.goto 25, 3) := by decide +kernel
theorem dL_isSame_535 : decode cL_isSame 535 = .ok (.aload 7, 2) := by decide +kernel
theorem dL_isSame_537 : decode cL_isSame 537 = .ok (.aload 7, 2) := by decide +kernel
theorem dL_isSame_539 : decode cL_isSame 539 = .ok (.invokeinterface 106 1, 5) := by decide +kernel
theorem dL_isSame_544 : decode cL_isSame 544 = .ok (.iconst 1, 1) := by decide +kernel
theorem dL_isSame_545 : decode cL_isSame 545 = .ok (.isub, 1) := by decide +kernel
theorem dL_isSame_546 : decode cL_isSame 546 = .ok (.invokeinterface 199 2, 5) := by decide +kernel
theorem dL_isSame_551 : decode cL_isSame 551 = .ok (.checkcast 103, 3) := by decide +kernel
theorem dL_isSame_554 : decode cL_isSame 554 = .ok (.getfield 109, 3) := by decide +kernel
theorem dL_isSame_557 : decode cL_isSame 557 = .ok (.if_icmp .eq 5, 3) := by decide +kernel
theorem dL_isSame_560 : decode cL_isSame 560 = .ok (.iconst 0, 1) := by decide +kernel
theorem dL_isSame_561 : decode cL_isSame 561 = .ok (.ireturn, 1) := by decide +kernel
theorem dL_isSame_562 : decode cL_isSame 562 = .ok (.iconst 0, 1) := by decide +kernel
theorem dL_isSame_563 : decode cL_isSame 563 = .ok (.istore 8, 2) := by decide +kernel
theorem dL_isSame_565 : decode cL_isSame 565 = .ok (.iload 8, 2) := by decide +kernel
theorem dL_isSame_567 : decode cL_isSame 567 = .ok (.aload 7, 2) := by decide +kernel
theorem dL_isSame_569 : decode cL_isSame 569 = .ok (.invokeinterface 106 1, 5) := by decide +kernel
theorem dL_isSame_574 : decode cL_isSame 574 = .ok (.if_icmp .ge 40, 3) := by decide +kernel
theorem dL_isSame_577 : decode cL_isSame 577 = .ok (.aload_n 1, 1) := by decide +kernel
theorem dL_isSame_578 : decode cL_isSame 578 = .ok (.aload 6, 2) := by decide +kernel
theorem dL_isSame_580 : decode cL_isSame 580 = .ok (.getfield 63, 3) := by decide +kernel
theorem dL_isSame_583 : decode cL_isSame 583 = .ok (.iload 8, 2) := by decide +kernel
theorem dL_isSame_585 : decode cL_isSame 585 = .ok (.invokevirtual 294, 3) := by decide +kernel
theorem dL_isSame_588 : decode cL_isSame 588 = .ok (.aload 7, 2) := by decide +kernel
theorem dL_isSame_590 : decode cL_isSame 590 = .ok (.iload 8, 2) := by decide +kernel
theorem dL_isSame_592 : decode cL_isSame 592 = .ok (.invokeinterface 199 2, 5) := by decide +kernel
theorem dL_isSame_597 : decode cL_isSame 597 = .ok (.checkcast 103, 3) := by decide +kernel
theorem dL_isSame_600 : decode cL_isSame 600 = .ok (.getfield 109, 3) := by decide +kernel
theorem dL_isSame_603 : decode cL_isSame 603 = .ok (.if_icmp .eq 5, 3) := by decide +kernel
theorem dL_isSame_606 : decode cL_isSame 606 = .ok (.iconst 0, 1) := by decide +kernel
theorem dL_isSame_607 : decode cL_isSame 607 = .ok (.ireturn, 1) := by decide +kernel
theorem dL_isSame_608 : decode cL_isSame 608 = .ok (.iinc 8 1, 3) := by decide +kernel
theorem dL_isSame_611 : decode cL_isSame 611 = .ok (.goto (-46), 3) := by decide +kernel
theorem dL_isSame_614 : decode cL_isSame 614 = .ok (.goto (-215), 3) := by decide +kernel
theorem dL_isSame_617 : decode cL_isSame 617 = .ok (.aload_n 1, 1) := by decide +kernel
theorem dL_isSame_618 : decode cL_isSame 618 = .ok (.invokevirtual 297, 3) := by decide +kernel
theorem dL_isSame_621 : decode cL_isSame 621 = .ok (.iload_n 2, 1) := by decide +kernel
theorem dL_isSame_622 : decode cL_isSame 622 = .ok (.if_icmp .ne 72, 3) := by decide +kernel
theorem dL_isSame_625 : decode cL_isSame 625 = .ok (.aload_n 1, 1) := by decide +kernel
theorem dL_isSame_626 : decode cL_isSame 626 = .ok (.iconst 4, 1) := by decide +kernel
theorem dL_isSame_627 : decode cL_isSame 627 = .ok (.invokevirtual 300, 3) := by decide +kernel
theorem dL_isSame_630 : decode cL_isSame 630 = .ok (.iload_n 3, 1) := by decide +kernel
theorem dL_isSame_631 : decode cL_isSame 631 = .ok (.if_icmp .ne 63, 3) := by decide +kernel
theorem dL_isSame_634 : decode cL_isSame 634 = .ok (.aload_n 1, 1) := by decide +kernel
theorem dL_isSame_635 : decode cL_isSame 635 = .ok (.bipush 8, 2) := by decide +kernel
theorem dL_isSame_637 : decode cL_isSame 637 = .ok (.invokevirtual 300, 3) := by decide +kernel
theorem dL_isSame_640 : decode cL_isSame 640 = .ok (.aload_n 0, 1) := by decide +kernel
theorem dL_isSame_641 : decode cL_isSame 641 = .ok (.getfield 119, 3) := by decide +kernel
theorem dL_isSame_644 : decode cL_isSame 644 = .ok (.ifCond .eq 7, 3) := by decide +kernel
theorem dL_isSame_647 : decode cL_isSame 647 = .ok (.iconst 1, 1) := by decide +kernel
theorem dL_isSame_648 : decode cL_isSame 648 = .ok (.goto 4, 3) := by decide +kernel
theorem dL_isSame_651 : decode cL_isSame 651 = .ok (.iconst 0, 1) := by decide +kernel
theorem dL_isSame_652 : decode cL_isSame 652 = .ok (.if_icmp .ne 42, 3) := by decide +kernel
theorem dL_isSame_655 : decode cL_isSame 655 = .ok (.aload_n 1, 1) := by decide +kernel
theorem dL_isSame_656 : decode cL_isSame 656 = .ok (.bipush 10, 2) := by decide +kernel
theorem dL_isSame_658 : decode cL_isSame 658 = .ok (.invokevirtual 300, 3) := by decide +kernel
theorem dL_isSame_661 : decode cL_isSame 661 = .ok (.aload_n 0, 1) := by decide +kernel
theorem dL_isSame_662 : decode cL_isSame 662 = .ok (.getfield 243, 3) := by decide +kernel
theorem dL_isSame_665 : decode cL_isSame 665 = .ok (.if_icmp .ne 29, 3) := by decide +kernel
theorem dL_isSame_668 : decode cL_isSame 668 = .ok (.aload_n 1, 1) := by decide +kernel
theorem dL_isSame_669 : decode cL_isSame 669 = .ok (.invokevirtual 303, 3) := by decide +kernel
theorem dL_isSame_672 : decode cL_isSame 672 = .ok (.iload_n 3, 1) := by decide +kernel
theorem dL_isSame_673 : decode cL_isSame 673 = .ok (.ifCond .ne 7, 3) := by decide +kernel
theorem dL_isSame_676 : decode cL_isSame 676 = .ok (.fconst 0, 1) := by decide +kernel
theorem dL_isSame_677 : decode cL_isSame 677 = .ok (.goto 9, 3) := by decide +kernel
theorem dL_isSame_680 : decode cL_isSame 680 = .ok (.iload 4, 2) := by decide +kernel
theorem dL_isSame_682 : decode cL_isSame 682 = .ok (.i2f, 1) := by decide +kernel
theorem dL_isSame_683 : decode cL_isSame 683 = .ok (.iload_n 3, 1) := by decide +kernel
theorem dL_isSame_684 : decode cL_isSame 684 = .ok (.i2f, 1) := by decide +kernel
theorem dL_isSame_685 : decode cL_isSame 685 = .ok (.fdiv, 1) := by decide +kernel
theorem dL_isSame_686 : decode cL_isSame 686 = .ok (.fcmp .l, 1) := by decide +kernel
theorem dL_isSame_687 : decode cL_isSame 687 = .ok (.ifCond .ne 7, 3) := by decide +kernel
theorem dL_isSame_690 : decode cL_isSame 690 = .ok (.iconst 1, 1) := by decide +kernel
theorem dL_isSame_691 : decode cL_isSame 691 = .ok (.goto 4, 3) := by decide +kernel
theorem dL_isSame_694 : decode cL_isSame 694 = .ok (.iconst 0, 1) := by decide +kernel
theorem dL_isSame_695 : decode cL_isSame 695 = .ok (.ireturn, 1) := by decide +kernel
theorem dL_act_0 : decode cL_act 0 = .ok (.aload_n 0, 1) := by decide +kernel
theorem dL_act_1 : decode cL_act 1 = .ok (.getfield 36, 3) := by decide +kernel
theorem dL_act_4 : decode cL_act 4 = .ok (.iload_n 2, 1) := by decide +kernel
theorem dL_act_5 : decode cL_act 5 = .ok (.iconst 4, 1) := by decide +kernel
theorem dL_act_6 : decode cL_act 6 = .ok (.iconst 5, 1) := by decide +kernel
theorem dL_act_7 : decode cL_act 7 = .ok (.invokestatic 43, 3) := by decide +kernel
theorem dL_act_10 : decode cL_act 10 = .ok (.aload_n 0, 1) := by decide +kernel
theorem dL_act_11 : decode cL_act 11 = .ok (.getfield 36, 3) := by decide +kernel
theorem dL_act_14 : decode cL_act 14 = .ok (.invokeinterface 106 1, 5) := by decide +kernel
theorem dL_act_19 : decode cL_act 19 = .ok (.irem, 1) := by decide +kernel
theorem dL_act_20 : decode cL_act 20 = .ok (.invokeinterface 199 2, 5) := by decide +kernel
theorem dL_act_25 : decode cL_act 25 = .ok (.checkcast 103, 3) := by decide +kernel
theorem dL_act_28 : decode cL_act 28 = .ok (.astore_n 3, 1) := by decide +kernel
theorem dL_act_29 : decode cL_act 29 = .ok (.aload_n 0, 1) := by decide +kernel
theorem dL_act_30 : decode cL_act 30 = .ok (.getfield 30, 3) := by decide +kernel
theorem dL_act_33 : decode cL_act 33 = .ok (.iload_n 2, 1) := by decide +kernel
theorem dL_act_34 : decode cL_act 34 = .ok (.bipush 9, 2) := by decide +kernel
theorem dL_act_36 : decode cL_act 36 = .ok (.iconst 2, 1) := by decide +kernel
theorem dL_act_37 : decode cL_act 37 = .ok (.invokestatic 43, 3) := by decide +kernel
theorem dL_act_40 : decode cL_act 40 = .ok (.invokeinterface 199 2, 5) := by decide +kernel
theorem dL_act_45 : decode cL_act 45 = .ok (.checkcast 60, 3) := by decide +kernel
theorem dL_act_48 : decode cL_act 48 = .ok (.astore 4, 2) := by decide +kernel
theorem dL_act_50 : decode cL_act 50 = .ok (.iload_n 2, 1) := by decide +kernel
theorem dL_act_51 : decode cL_act 51 = .ok (.iconst 0, 1) := by decide +kernel
theorem dL_act_52 : decode cL_act 52 = .ok (.iconst 4, 1) := by decide +kernel
theorem dL_act_53 : decode cL_act 53 = .ok (.invokestatic 43, 3) := by decide +kernel
theorem dL_act_56 : decode cL_act 56 = .ok (.tableswitch 544 0 11 #[64, 64, 98, 98, 222, 275, 275, 387, 387, 438, 438, 486], 64) := by decide +kernel
theorem dL_act_120 : decode cL_act 120 = .ok (.aload_n 0, 1) := by decide +kernel
theorem dL_act_121 : decode cL_act 121 = .ok (.invokevirtual 307, 3) := by decide +kernel
theorem dL_act_124 : decode cL_act 124 = .ok (.aload_n 1, 1) := by decide +kernel
theorem dL_act_125 : decode cL_act 125 = .ok (.invokevirtual 310, 3) := by decide +kernel
theorem dL_act_128 : decode cL_act 128 = .ok (.ifCond .gt 20, 3) := by decide +kernel
theorem dL_act_131 : decode cL_act 131 = .ok (.aload_n 1, 1) := by decide +kernel
theorem dL_act_132 : decode cL_act 132 = .ok (.iconst 3, 1) := by decide +kernel
theorem dL_act_133 : decode cL_act 133 = .ok (.invokevirtual 300, 3) := by decide +kernel
theorem dL_act_136 : decode cL_act 136 = .ok (.aload_n 0, 1) := by decide +kernel
theorem dL_act_137 : decode cL_act 137 = .ok (.getfield 36, 3) := by decide +kernel
theorem dL_act_140 : decode cL_act 140 = .ok (.invokeinterface 106 1, 5) := by decide +kernel
theorem dL_act_145 : decode cL_act 145 = .ok (.if_icmp .ne 7, 3) := by decide +kernel
theorem dL_act_148 : decode cL_act 148 = .ok (.iconst 1, 1) := by decide +kernel
theorem dL_act_149 : decode cL_act 149 = .ok (.goto 4, 3) := by decide +kernel
theorem dL_act_152 : decode cL_act 152 = .ok (.iconst 0, 1) := by decide +kernel
theorem dL_act_153 : decode cL_act 153 = .ok (.ireturn, 1) := by decide +kernel
theorem dL_act_154 : decode cL_act 154 = .ok (.aload_n 0, 1) := by decide +kernel
theorem dL_act_155 : decode cL_act 155 = .ok (.getfield 36, 3) := by decide +kernel
theorem dL_act_158 : decode cL_act 158 = .ok (.invokeinterface 106 1, 5) := by decide +kernel
theorem dL_act_163 : decode cL_act 163 = .ok (.bipush 20, 2) := by decide +kernel
theorem dL_act_165 : decode cL_act 165 = .ok (.if_icmp .le 5, 3) := by decide +kernel
theorem dL_act_168 : decode cL_act 168 = .ok (.iconst 1, 1) := by decide +kernel
theorem dL_act_169 : decode cL_act 169 = .ok (.ireturn, 1) := by decide +kernel
theorem dL_act_170 : decode cL_act 170 = .ok (.aload_n 0, 1) := by decide +kernel
theorem dL_act_171 : decode cL_act 171 = .ok (.iload_n 2, 1) := by decide +kernel
theorem dL_act_172 : decode cL_act 172 = .ok (.iconst 4, 1) := by decide +kernel
theorem dL_act_173 : decode cL_act 173 = .ok (.iushr, 1) := by decide +kernel
theorem dL_act_174 : decode cL_act 174 = .ok (.invokevirtual 100, 3) := by decide +kernel
theorem dL_act_177 : decode cL_act 177 = .ok (.astore 5, 2) := by decide +kernel
theorem dL_act_179 : decode cL_act 179 = .ok (.aload_n 0, 1) := by decide +kernel
theorem dL_act_180 : decode cL_act 180 = .ok (.invokevirtual 312, 3) := by decide +kernel
theorem dL_act_183 : decode cL_act 183 = .ok (.iconst 0, 1) := by decide +kernel
theorem dL_act_184 : decode cL_act 184 = .ok (.istore 6, 2) := by decide +kernel
theorem dL_act_186 : decode cL_act 186 = .ok (.aload 5, 2) := by decide +kernel
theorem dL_act_188 : decode cL_act 188 = .ok (.getfield 124, 3) := by decide +kernel
theorem dL_act_191 : decode cL_act 191 = .ok (.invokeinterface 157 1, 5) := by decide +kernel
theorem dL_act_196 : decode cL_act 196 = .ok (.astore 7, 2) := by decide +kernel
theorem dL_act_198 : decode cL_act 198 = .ok (.aload 7, 2) := by decide +kernel
theorem dL_act_200 : decode cL_act 200 = .ok (.invokeinterface 161 1, 5) := by decide +kernel
theorem dL_act_205 : decode cL_act 205 = .ok (.ifCond .eq 33, 3) := by decide +kernel
theorem dL_act_208 : decode cL_act 208 = .ok (.aload 7, 2) := by decide +kernel
theorem dL_act_210 : decode cL_act 210 = .ok (.invokeinterface 167 1, 5) := by decide +kernel
theorem dL_act_215 : decode cL_act 215 = .ok (.checkcast 79, 3) := by decide +kernel
theorem dL_act_218 : decode cL_act 218 = .ok (.invokevirtual 176, 3) := by decide +kernel
theorem dL_act_221 : decode cL_act 221 = .ok (.istore 8, 2) := by decide +kernel
theorem dL_act_223 : decode cL_act 223 = .ok (.bipush 10, 2) := by decide +kernel
theorem dL_act_225 : decode cL_act 225 = .ok (.iload 6, 2) := by decide +kernel
theorem dL_act_227 : decode cL_act 227 = .ok (.imul, 1) := by decide +kernel
theorem dL_act_228 : decode cL_act 228 = .ok (.iload 8, 2) := by decide +kernel
theorem dL_act_230 : decode cL_act 230 = .ok (.iadd, 1) := by decide +kernel
theorem dL_act_231 : decode cL_act 231 = .ok (.iconst 1, 1) := by decide +kernel
theorem dL_act_232 : decode cL_act 232 = .ok (.iadd, 1) := by decide +kernel
theorem dL_act_233 : decode cL_act 233 = .ok (.istore 6, 2) := by decide +kernel
theorem dL_act_235 : decode cL_act 235 = .ok (.goto (-37), 3) := by decide +kernel
theorem dL_act_238 : decode cL_act 238 = .ok (.aload_n 1, 1) := by decide +kernel
theorem dL_act_239 : decode cL_act 239 = .ok (.aload 5, 2) := by decide +kernel
theorem dL_act_241 : decode cL_act 241 = .ok (.getfield 110, 3) := by decide +kernel
theorem dL_act_244 : decode cL_act 244 = .ok (.aload 5, 2) := by decide +kernel
theorem dL_act_246 : decode cL_act 246 = .ok (.getfield 111, 3) := by decide +kernel
theorem dL_act_249 : decode cL_act 249 = .ok (.aload 5, 2) := by decide +kernel
theorem dL_act_251 : decode cL_act 251 = .ok (.getfield 112, 3) := by decide +kernel
theorem dL_act_254 : decode cL_act 254 = .ok (.aload 5, 2) := by decide +kernel
theorem dL_act_256 : decode cL_act 256 = .ok (.getfield 115, 3) := by decide +kernel
theorem dL_act_259 : decode cL_act 259 = .ok (.iload 6, 2) := by decide +kernel
theorem dL_act_261 : decode cL_act 261 = .ok (.invokevirtual 315, 3) := by decide +kernel
theorem dL_act_264 : decode cL_act 264 = .ok (.aload 5, 2) := by decide +kernel
theorem dL_act_266 : decode cL_act 266 = .ok (.getfield 109, 3) := by decide +kernel
theorem dL_act_269 : decode cL_act 269 = .ok (.if_icmp .ne 7, 3) := by decide +kernel
theorem dL_act_272 : decode cL_act 272 = .ok (.iconst 1, 1) := by decide +kernel
theorem dL_act_273 : decode cL_act 273 = .ok (.goto 4, 3) := by decide +kernel
theorem dL_act_276 : decode cL_act 276 = .ok (.iconst 0, 1) := by decide +kernel
theorem dL_act_277 : decode cL_act 277 = .ok (.ireturn, 1) := by decide +kernel
theorem dL_act_278 : decode cL_act 278 = .ok (.aload_n 3, 1) := by decide +kernel
theorem dL_act_279 : decode cL_act 279 = .ok (.getfield 237, 3) := by decide +kernel
theorem dL_act_282 : decode cL_act 282 = .ok (.ifCond .eq 5, 3) := by decide +kernel
theorem dL_act_285 : decode cL_act 285 = .ok (.iconst 1, 1) := by decide +kernel
theorem dL_act_286 : decode cL_act 286 = .ok (.ireturn, 1) := by decide +kernel
theorem dL_act_287 : decode cL_act 287 = .ok (.aload_n 3, 1) := by decide +kernel
theorem dL_act_288 : decode cL_act 288 = .ok (.getfield 222, 3) := by decide +kernel
theorem dL_act_291 : decode cL_act 291 = .ok (.istore 5, 2) := by decide +kernel
theorem dL_act_293 : decode cL_act 293 = .ok (.aload_n 3, 1) := by decide +kernel
theorem dL_act_294 : decode cL_act 294 = .ok (.iconst 1, 1) := by decide +kernel
theorem dL_act_295 : decode cL_act 295 = .ok (.putfield 237, 3) := by decide +kernel
theorem dL_act_298 : decode cL_act 298 = .ok (.aload_n 3, 1) := by decide +kernel
theorem dL_act_299 : decode cL_act 299 = .ok (.iconst (-1), 1) := by decide +kernel
theorem dL_act_300 : decode cL_act 300 = .ok (.putfield 222, 3) := by decide +kernel
theorem dL_act_303 : decode cL_act 303 = .ok (.aload_n 3, 1) := by decide +kernel
theorem dL_act_304 : decode cL_act 304 = .ok (.iconst 0, 1) := by decide +kernel
theorem dL_act_305 : decode cL_act 305 = .ok (.putfield 246, 3) := by decide +kernel
theorem dL_act_308 : decode cL_act 308 = .ok (.aload_n 0, 1) := by decide +kernel
theorem dL_act_309 : decode cL_act 309 = .ok (.invokevirtual 312, 3) := by decide +kernel
theorem dL_act_312 : decode cL_act 312 = .ok (.aload_n 1, 1) := by decide +kernel
theorem dL_act_313 : decode cL_act 313 = .ok (.aload_n 3, 1) := by decide +kernel
theorem dL_act_314 : decode cL_act 314 = .ok (.getfield 109, 3) := by decide +kernel
theorem dL_act_317 : decode cL_act 317 = .ok (.invokevirtual 319, 3) := by decide +kernel
theorem dL_act_320 : decode cL_act 320 = .ok (.iload 5, 2) := by decide +kernel
theorem dL_act_322 : decode cL_act 322 = .ok (.if_icmp .ne 7, 3) := by decide +kernel
theorem dL_act_325 : decode cL_act 325 = .ok (.iconst 1, 1) := by decide +kernel
theorem dL_act_326 : decode cL_act 326 = .ok (.goto 4, 3) := by decide +kernel
theorem dL_act_329 : decode cL_act 329 = .ok (.iconst 0, 1) := by decide +kernel
theorem dL_act_330 : decode cL_act 330 = .ok (.ireturn, 1) := by decide +kernel
theorem dL_act_331 : decode cL_act 331 = .ok (.aload_n 3, 1) := by decide +kernel
theorem dL_act_332 : decode cL_act 332 = .ok (.getfield 222, 3) := by decide +kernel
theorem dL_act_335 : decode cL_act 335 = .ok (.ifCond .ge 5, 3) := by decide +kernel
theorem dL_act_338 : decode cL_act 338 = .ok (.iconst 1, 1) := by decide +kernel
theorem dL_act_339 : decode cL_act 339 = .ok (.ireturn, 1) := by decide +kernel
theorem dL_act_340 : decode cL_act 340 = .ok (.aload_n 3, 1) := by decide +kernel
theorem dL_act_341 : decode cL_act 341 = .ok (.getfield 222, 3) := by decide +kernel
theorem dL_act_344 : decode cL_act 344 = .ok (.istore 5, 2) := by decide +kernel
theorem dL_act_346 : decode cL_act 346 = .ok (.aload_n 3, 1) := by decide +kernel
theorem dL_act_347 : decode cL_act 347 = .ok (.invokevirtual 240, 3) := by decide +kernel
theorem dL_act_350 : decode cL_act 350 = .ok (.istore 6, 2) := by decide +kernel
theorem dL_act_352 : decode cL_act 352 = .ok (.aload_n 3, 1) := by decide +kernel
theorem dL_act_353 : decode cL_act 353 = .ok (.iconst (-1), 1) := by decide +kernel
theorem dL_act_354 : decode cL_act 354 = .ok (.putfield 222, 3) := by decide +kernel
theorem dL_act_357 : decode cL_act 357 = .ok (.aload_n 3, 1) := by decide +kernel
theorem dL_act_358 : decode cL_act 358 = .ok (.iconst 0, 1) := by decide +kernel
theorem dL_act_359 : decode cL_act 359 = .ok (.putfield 246, 3) := by decide +kernel
theorem dL_act_362 : decode cL_act 362 = .ok (.aload_n 3, 1) := by decide +kernel
theorem dL_act_363 : decode cL_act 363 = .ok (.iload 6, 2) := by decide +kernel
theorem dL_act_365 : decode cL_act 365 = .ok (.ifCond .ne 7, 3) := by decide +kernel
theorem dL_act_368 : decode cL_act 368 = .ok (.iconst 1, 1) := by decide +kernel
theorem dL_act_369 : decode cL_act 369 = .ok (.goto 4, 3) := by decide +kernel
theorem dL_act_372 : decode cL_act 372 = .ok (.iconst 0, 1) := by decide +kernel
theorem dL_act_373 : decode cL_act 373 = .ok (.putfield 237, 3) := by decide +kernel
theorem dL_act_376 : decode cL_act 376 = .ok (.iload 6, 2) := by decide +kernel
theorem dL_act_378 : decode cL_act 378 = .ok (.ifCond .le 26, 3) := by decide +kernel
theorem dL_act_381 : decode cL_act 381 = .ok (.aload_n 3, 1) := by decide +kernel
theorem dL_act_382 : decode cL_act 382 = .ok (.new 27, 3) := by decide +kernel
theorem dL_act_385 : decode cL_act 385 = .ok (.dup, 1) := by decide +kernel
theorem dL_act_386 : decode cL_act 386 = .ok (.aload_n 3, 1) := by decide +kernel
theorem dL_act_387 : decode cL_act 387 = .ok (.getfield 124, 3) := by decide +kernel
theorem dL_act_390 : decode cL_act 390 = .ok (.iconst 0, 1) := by decide +kernel
theorem dL_act_391 : decode cL_act 391 = .ok (.iload 6, 2) := by decide +kernel
theorem dL_act_393 : decode cL_act 393 = .ok (.invokeinterface 322 3, 5) := by decide +kernel
theorem dL_act_398 : decode cL_act 398 = .ok (.invokespecial 252, 3) := by decide +kernel
theorem dL_act_401 : decode cL_act 401 = .ok (.putfield 124, 3) := by decide +kernel
theorem dL_act_404 : decode cL_act 404 = .ok (.aload_n 0, 1) := by decide +kernel
theorem dL_act_405 : decode cL_act 405 = .ok (.getfield 36, 3) := by decide +kernel
theorem dL_act_408 : decode cL_act 408 = .ok (.invokeinterface 106 1, 5) := by decide +kernel
theorem dL_act_413 : decode cL_act 413 = .ok (.istore 7, 2) := by decide +kernel
theorem dL_act_415 : decode cL_act 415 = .ok (.aload_n 0, 1) := by decide +kernel
theorem dL_act_416 : decode cL_act 416 = .ok (.invokevirtual 312, 3) := by decide +kernel
theorem dL_act_419 : decode cL_act 419 = .ok (.aload_n 1, 1) := by decide +kernel
theorem dL_act_420 : decode cL_act 420 = .ok (.aload_n 3, 1) := by decide +kernel
theorem dL_act_421 : decode cL_act 421 = .ok (.getfield 109, 3) := by decide +kernel
theorem dL_act_424 : decode cL_act 424 = .ok (.invokevirtual 326, 3) := by decide +kernel
theorem dL_act_427 : decode cL_act 427 = .ok (.iload 5, 2) := by decide +kernel
theorem dL_act_429 : decode cL_act 429 = .ok (.if_icmp .ne 12, 3) := by decide +kernel
theorem dL_act_432 : decode cL_act 432 = .ok (.iload 7, 2) := by decide +kernel
theorem dL_act_434 : decode cL_act 434 = .ok (.ifCond .le 7, 3) := by decide +kernel
theorem dL_act_437 : decode cL_act 437 = .ok (.iconst 1, 1) := by decide +kernel
theorem dL_act_438 : decode cL_act 438 = .ok (.goto 4, 3) := by decide +kernel
theorem dL_act_441 : decode cL_act 441 = .ok (.iconst 0, 1) := by decide +kernel
theorem dL_act_442 : decode cL_act 442 = .ok (.ireturn, 1) := by decide +kernel
theorem dL_act_443 : decode cL_act 443 = .ok (.aload_n 3, 1) := by decide +kernel
theorem dL_act_444 : decode cL_act 444 = .ok (.iload_n 2, 1) := by decide +kernel
theorem dL_act_445 : decode cL_act 445 = .ok (.bipush 11, 2) := by decide +kernel
theorem dL_act_447 : decode cL_act 447 = .ok (.iconst 4, 1) := by decide +kernel
theorem dL_act_448 : decode cL_act 448 = .ok (.invokestatic 43, 3) := by decide +kernel
theorem dL_act_451 : decode cL_act 451 = .ok (.putfield 110, 3) := by decide +kernel
theorem dL_act_454 : decode cL_act 454 = .ok (.aload_n 3, 1) := by decide +kernel
theorem dL_act_455 : decode cL_act 455 = .ok (.iload_n 2, 1) := by decide +kernel
theorem dL_act_456 : decode cL_act 456 = .ok (.bipush 15, 2) := by decide +kernel
theorem dL_act_458 : decode cL_act 458 = .ok (.iconst 4, 1) := by decide +kernel
theorem dL_act_459 : decode cL_act 459 = .ok (.invokestatic 43, 3) := by decide +kernel
theorem dL_act_462 : decode cL_act 462 = .ok (.putfield 111, 3) := by decide +kernel
theorem dL_act_465 : decode cL_act 465 = .ok (.aload_n 0, 1) := by decide +kernel
theorem dL_act_466 : decode cL_act 466 = .ok (.invokevirtual 312, 3) := by decide +kernel
theorem dL_act_469 : decode cL_act 469 = .ok (.aload_n 1, 1) := by decide +kernel
theorem dL_act_470 : decode cL_act 470 = .ok (.aload_n 3, 1) := by decide +kernel
theorem dL_act_471 : decode cL_act 471 = .ok (.getfield 109, 3) := by decide +kernel
theorem dL_act_474 : decode cL_act 474 = .ok (.aload_n 3, 1) := by decide +kernel
theorem dL_act_475 : decode cL_act 475 = .ok (.getfield 110, 3) := by decide +kernel
theorem dL_act_478 : decode cL_act 478 = .ok (.aload_n 3, 1) := by decide +kernel
theorem dL_act_479 : decode cL_act 479 = .ok (.getfield 111, 3) := by decide +kernel
theorem dL_act_482 : decode cL_act 482 = .ok (.invokevirtual 329, 3) := by decide +kernel
theorem dL_act_485 : decode cL_act 485 = .ok (.ifCond .lt 7, 3) := by decide +kernel
theorem dL_act_488 : decode cL_act 488 = .ok (.iconst 1, 1) := by decide +kernel
theorem dL_act_489 : decode cL_act 489 = .ok (.goto 4, 3) := by decide +kernel
theorem dL_act_492 : decode cL_act 492 = .ok (.iconst 0, 1) := by decide +kernel
theorem dL_act_493 : decode cL_act 493 = .ok (.ireturn, 1) := by decide +kernel
theorem dL_act_494 : decode cL_act 494 = .ok (.aload 4, 2) := by decide +kernel
theorem dL_act_496 : decode cL_act 496 = .ok (.getfield 66, 3) := by decide +kernel
theorem dL_act_499 : decode cL_act 499 = .ok (.istore 5, 2) := by decide +kernel
theorem dL_act_501 : decode cL_act 501 = .ok (.aload 4, 2) := by decide +kernel
theorem dL_act_503 : decode cL_act 503 = .ok (.iload_n 2, 1) := by decide +kernel
theorem dL_act_504 : decode cL_act 504 = .ok (.bipush 11, 2) := by decide +kernel
theorem dL_act_506 : decode cL_act 506 = .ok (.iconst 3, 1) := by decide +kernel
theorem dL_act_507 : decode cL_act 507 = .ok (.invokestatic 43, 3) := by decide +kernel
theorem dL_act_510 : decode cL_act 510 = .ok (.putfield 66, 3) := by decide +kernel
theorem dL_act_513 : decode cL_act 513 = .ok (.aload_n 0, 1) := by decide +kernel
theorem dL_act_514 : decode cL_act 514 = .ok (.invokevirtual 312, 3) := by decide +kernel
theorem dL_act_517 : decode cL_act 517 = .ok (.aload_n 1, 1) := by decide +kernel
theorem dL_act_518 : decode cL_act 518 = .ok (.aload 4, 2) := by decide +kernel
theorem dL_act_520 : decode cL_act 520 = .ok (.getfield 63, 3) := by decide +kernel
theorem dL_act_523 : decode cL_act 523 = .ok (.aload 4, 2) := by decide +kernel
theorem dL_act_525 : decode cL_act 525 = .ok (.getfield 66, 3) := by decide +kernel
theorem dL_act_528 : decode cL_act 528 = .ok (.invokevirtual 332, 3) := by decide +kernel
theorem dL_act_531 : decode cL_act 531 = .ok (.iload 5, 2) := by decide +kernel
theorem dL_act_533 : decode cL_act 533 = .ok (.if_icmp .ne 7, 3) := by decide +kernel
theorem dL_act_536 : decode cL_act 536 = .ok (.iconst 1, 1) := by decide +kernel
theorem dL_act_537 : decode cL_act 537 = .ok (.goto 4, 3) := by decide +kernel
theorem dL_act_540 : decode cL_act 540 = .ok (.iconst 0, 1) := by decide +kernel
theorem dL_act_541 : decode cL_act 541 = .ok (.ireturn, 1) := by decide +kernel
theorem dL_act_542 : decode cL_act 542 = .ok (.aload_n 0, 1) := by decide +kernel
theorem dL_act_543 : decode cL_act 543 = .ok (.getfield 51, 3) := by decide +kernel
theorem dL_act_546 : decode cL_act 546 = .ok (.istore 5, 2) := by decide +kernel
theorem dL_act_548 : decode cL_act 548 = .ok (.aload_n 0, 1) := by decide +kernel
theorem dL_act_549 : decode cL_act 549 = .ok (.iload_n 2, 1) := by decide +kernel
theorem dL_act_550 : decode cL_act 550 = .ok (.bipush 11, 2) := by decide +kernel
theorem dL_act_552 : decode cL_act 552 = .ok (.iconst 1, 1) := by decide +kernel
theorem dL_act_553 : decode cL_act 553 = .ok (.invokestatic 43, 3) := by decide +kernel
theorem dL_act_556 : decode cL_act 556 = .ok (.putfield 51, 3) := by decide +kernel
theorem dL_act_559 : decode cL_act 559 = .ok (.aload_n 0, 1) := by decide +kernel
theorem dL_act_560 : decode cL_act 560 = .ok (.invokevirtual 312, 3) := by decide +kernel
theorem dL_act_563 : decode cL_act 563 = .ok (.aload_n 1, 1) := by decide +kernel
theorem dL_act_564 : decode cL_act 564 = .ok (.aload_n 0, 1) := by decide +kernel
theorem dL_act_565 : decode cL_act 565 = .ok (.getfield 51, 3) := by decide +kernel
theorem dL_act_568 : decode cL_act 568 = .ok (.iconst 1, 1) := by decide +kernel
theorem dL_act_569 : decode cL_act 569 = .ok (.if_icmp .ne 7, 3) := by decide +kernel
theorem dL_act_572 : decode cL_act 572 = .ok (.iconst 1, 1) := by decide +kernel
theorem dL_act_573 : decode cL_act 573 = .ok (.goto 4, 3) := by decide +kernel
theorem dL_act_576 : decode cL_act 576 = .ok (.iconst 0, 1) := by decide +kernel
theorem dL_act_577 : decode cL_act 577 = .ok (.invokevirtual 335, 3) := by decide +kernel
theorem dL_act_580 : decode cL_act 580 = .ok (.iload 5, 2) := by decide +kernel
theorem dL_act_582 : decode cL_act 582 = .ok (.iconst 1, 1) := by decide +kernel
theorem dL_act_583 : decode cL_act 583 = .ok (.if_icmp .ne 7, 3) := by decide +kernel
theorem dL_act_586 : decode cL_act 586 = .ok (.iconst 1, 1) := by decide +kernel
theorem dL_act_587 : decode cL_act 587 = .ok (.goto 4, 3) := by decide +kernel
theorem dL_act_590 : decode cL_act 590 = .ok (.iconst 0, 1) := by decide +kernel
theorem dL_act_591 : decode cL_act 591 = .ok (.if_icmp .ne 7, 3) := by decide +kernel
theorem dL_act_594 : decode cL_act 594 = .ok (.iconst 1, 1) := by decide +kernel
theorem dL_act_595 : decode cL_act 595 = .ok (.goto 4, 3) := by decide +kernel
theorem dL_act_598 : decode cL_act 598 = .ok (.iconst 0, 1) := by decide +kernel
theorem dL_act_599 : decode cL_act 599 = .ok (.ireturn, 1) := by decide +kernel
theorem dL_act_600 : decode cL_act 600 = .ok (.aload_n 0, 1) := by decide +kernel
theorem dL_act_601 : decode cL_act 601 = .ok (.aload_n 3, 1) := by decide +kernel
theorem dL_act_602 : decode cL_act 602 = .ok (.aload 4, 2) := by decide +kernel
theorem dL_act_604 : decode cL_act 604 = .ok (.invokevirtual 229, 3) := by decide +kernel
theorem dL_act_607 : decode cL_act 607 = .ok (.ifCond .ne 5, 3) := by decide +kernel
theorem dL_act_610 : decode cL_act 610 = .ok (.iconst 1, 1) := by decide +kernel
theorem dL_act_611 : decode cL_act 611 = .ok (.ireturn, 1) := by decide +kernel
theorem dL_act_612 : decode cL_act 612 = .ok (.aload_n 0, 1) := by decide +kernel
theorem dL_act_613 : decode cL_act 613 = .ok (.aload_n 3, 1) := by decide +kernel
theorem dL_act_614 : decode cL_act 614 = .ok (.aload 4, 2) := by decide +kernel
theorem dL_act_616 : decode cL_act 616 = .ok (.invokevirtual 279, 3) := by decide +kernel
theorem dL_act_619 : decode cL_act 619 = .ok (.ifCond .eq 7, 3) := by decide +kernel
theorem dL_act_622 : decode cL_act 622 = .ok (.iconst 2, 1) := by decide +kernel
theorem dL_act_623 : decode cL_act 623 = .ok (.goto 20, 3) := by decide +kernel
theorem dL_act_626 : decode cL_act 626 = .ok (.aload 4, 2) := by decide +kernel
theorem dL_act_628 : decode cL_act 628 = .ok (.getfield 249, 3) := by decide +kernel
theorem dL_act_631 : decode cL_act 631 = .ok (.aload_n 0, 1) := by decide +kernel
theorem dL_act_632 : decode cL_act 632 = .ok (.getfield 47, 3) := by decide +kernel
theorem dL_act_635 : decode cL_act 635 = .ok (.if_icmp .ge 7, 3) := by decide +kernel
theorem dL_act_638 : decode cL_act 638 = .ok (.iconst 1, 1) := by decide +kernel
theorem dL_act_639 : decode cL_act 639 = .ok (.goto 4, 3) := by decide +kernel
theorem dL_act_642 : decode cL_act 642 = .ok (.iconst 0, 1) := by decide +kernel
theorem dL_act_643 : decode cL_act 643 = .ok (.istore 5, 2) := by decide +kernel
theorem dL_act_645 : decode cL_act 645 = .ok (.aload 4, 2) := by decide +kernel
theorem dL_act_647 : decode cL_act 647 = .ok (.dup, 1) := by decide +kernel
theorem dL_act_648 : decode cL_act 648 = .ok (.getfield 249, 3) := by decide +kernel
theorem dL_act_651 : decode cL_act 651 = .ok (.iload 5, 2) := by decide +kernel
theorem dL_act_653 : decode cL_act 653 = .ok (.iconst 1, 1) := by decide +kernel
theorem dL_act_654 : decode cL_act 654 = .ok (.if_icmp .ne 7, 3) := by decide +kernel
theorem dL_act_657 : decode cL_act 657 = .ok (.iconst 1, 1) := by decide +kernel
theorem dL_act_658 : decode cL_act 658 = .ok (.goto 4, 3) := by decide +kernel
theorem dL_act_661 : decode cL_act 661 = .ok (.iconst 0, 1) := by decide +kernel
theorem dL_act_662 : decode cL_act 662 = .ok (.iadd, 1) := by decide +kernel
theorem dL_act_663 : decode cL_act 663 = .ok (.putfield 249, 3) := by decide +kernel
theorem dL_act_666 : decode cL_act 666 = .ok (.iload 5, 2) := by decide +kernel
theorem dL_act_668 : decode cL_act 668 = .ok (.ifCond .le 17, 3) := by decide +kernel
theorem dL_act_671 : decode cL_act 671 = .ok (.aload_n 3, 1) := by decide +kernel
theorem dL_act_672 : decode cL_act 672 = .ok (.aload 4, 2) := by decide +kernel
theorem dL_act_674 : decode cL_act 674 = .ok (.getfield 63, 3) := by decide +kernel
theorem dL_act_677 : decode cL_act 677 = .ok (.putfield 222, 3) := by decide +kernel
theorem dL_act_680 : decode cL_act 680 = .ok (.aload_n 3, 1) := by decide +kernel
theorem dL_act_681 : decode cL_act 681 = .ok (.iconst 1, 1) := by decide +kernel
theorem dL_act_682 : decode cL_act 682 = .ok (.putfield 246, 3) := by decide +kernel
theorem dL_act_685 : decode cL_act 685 = .ok (.aload_n 0, 1) := by decide +kernel
theorem dL_act_686 : decode cL_act 686 = .ok (.invokevirtual 312, 3) := by decide +kernel
theorem dL_act_689 : decode cL_act 689 = .ok (.aload_n 1, 1) := by decide +kernel
theorem dL_act_690 : decode cL_act 690 = .ok (.aload_n 3, 1) := by decide +kernel
theorem dL_act_691 : decode cL_act 691 = .ok (.getfield 109, 3) := by decide +kernel
theorem dL_act_694 : decode cL_act 694 = .ok (.aload 4, 2) := by decide +kernel
theorem dL_act_696 : decode cL_act 696 = .ok (.getfield 63, 3) := by decide +kernel
theorem dL_act_699 : decode cL_act 699 = .ok (.invokevirtual 339, 3) := by decide +kernel
theorem dL_act_702 : decode cL_act 702 = .ok (.iload 5, 2) := by decide +kernel
theorem dL_act_704 : decode cL_act 704 = .ok (.if_icmp .ne 7, 3) := by decide +kernel
theorem dL_act_707 : decode cL_act 707 = .ok (.iconst 1, 1) := by decide +kernel
theorem dL_act_708 : decode cL_act 708 = .ok (.goto 4, 3) := by decide +kernel
theorem dL_act_711 : decode cL_act 711 = .ok (.iconst 0, 1) := by decide +kernel
theorem dL_act_712 : decode cL_act 712 = .ok (.ireturn, 1) := by decide +kernel
theorem dL_law_0 : decode cL_law 0 = .ok (.new 31, 3) := by decide +kernel
theorem dL_law_3 : decode cL_law 3 = .ok (.dup, 1) := by decide +kernel
theorem dL_law_4 : decode cL_law 4 = .ok (.aload_n 0, 1) := by decide +kernel
theorem dL_law_5 : decode cL_law 5 = .ok (.invokespecial 342, 3) := by decide +kernel
theorem dL_law_8 : decode cL_law 8 = .ok (.astore_n 1, 1) := by decide +kernel
theorem dL_law_9 : decode cL_law 9 = .ok (.new 12, 3) := by decide +kernel
theorem dL_law_12 : decode cL_law 12 = .ok (.dup, 1) := by decide +kernel
theorem dL_law_13 : decode cL_law 13 = .ok (.invokespecial 345, 3) := by decide +kernel
theorem dL_law_16 : decode cL_law 16 = .ok (.astore_n 2, 1) := by decide +kernel
theorem dL_law_17 : decode cL_law 17 = .ok (.aload_n 2, 1) := by decide +kernel
theorem dL_law_18 : decode cL_law 18 = .ok (.aload_n 1, 1) := by decide +kernel
theorem dL_law_19 : decode cL_law 19 = .ok (.invokevirtual 346, 3) := by decide +kernel
theorem dL_law_22 : decode cL_law 22 = .ok (.invokestatic 349, 3) := by decide +kernel
theorem dL_law_25 : decode cL_law 25 = .ok (.aload_n 2, 1) := by decide +kernel
theorem dL_law_26 : decode cL_law 26 = .ok (.invokevirtual 353, 3) := by decide +kernel
theorem dL_law_29 : decode cL_law 29 = .ok (.bipush 9, 2) := by decide +kernel
theorem dL_law_31 : decode cL_law 31 = .ok (.if_icmp .ne 11, 3) := by decide +kernel
theorem dL_law_34 : decode cL_law 34 = .ok (.aload_n 1, 1) := by decide +kernel
theorem dL_law_35 : decode cL_law 35 = .ok (.aload_n 2, 1) := by decide +kernel
theorem dL_law_36 : decode cL_law 36 = .ok (.invokevirtual 356, 3) := by decide +kernel
theorem dL_law_39 : decode cL_law 39 = .ok (.ifCond .ne 5, 3) := by decide +kernel
theorem dL_law_42 : decode cL_law 42 = .ok (.iconst 0, 1) := by decide +kernel
theorem dL_law_43 : decode cL_law 43 = .ok (.ireturn, 1) := by decide +kernel
theorem dL_law_44 : decode cL_law 44 = .ok (.aload_n 1, 1) := by decide +kernel
theorem dL_law_45 : decode cL_law 45 = .ok (.invokevirtual 307, 3) := by decide +kernel
theorem dL_law_48 : decode cL_law 48 = .ok (.aload_n 2, 1) := by decide +kernel
theorem dL_law_49 : decode cL_law 49 = .ok (.invokevirtual 310, 3) := by decide +kernel
theorem dL_law_52 : decode cL_law 52 = .ok (.iconst 1, 1) := by decide +kernel
theorem dL_law_53 : decode cL_law 53 = .ok (.if_icmp .lt 11, 3) := by decide +kernel
theorem dL_law_56 : decode cL_law 56 = .ok (.aload_n 1, 1) := by decide +kernel
theorem dL_law_57 : decode cL_law 57 = .ok (.aload_n 2, 1) := by decide +kernel
theorem dL_law_58 : decode cL_law 58 = .ok (.invokevirtual 356, 3) := by decide +kernel
theorem dL_law_61 : decode cL_law 61 = .ok (.ifCond .ne 5, 3) := by decide +kernel
theorem dL_law_64 : decode cL_law 64 = .ok (.iconst 0, 1) := by decide +kernel
theorem dL_law_65 : decode cL_law 65 = .ok (.ireturn, 1) := by decide +kernel
theorem dL_law_66 : decode cL_law 66 = .ok (.iconst 0, 1) := by decide +kernel
theorem dL_law_67 : decode cL_law 67 = .ok (.istore_n 3, 1) := by decide +kernel
theorem dL_law_68 : decode cL_law 68 = .ok (.iload_n 3, 1) := by decide +kernel
theorem dL_law_69 : decode cL_law 69 = .ok (.bipush 24, 2) := by decide +kernel
theorem dL_law_71 : decode cL_law 71 = .ok (.if_icmp .ge 45, 3) := by decide +kernel
theorem dL_law_74 : decode cL_law 74 = .ok (.aload_n 1, 1) := by decide +kernel
theorem dL_law_75 : decode cL_law 75 = .ok (.aload_n 2, 1) := by decide +kernel
theorem dL_law_76 : decode cL_law 76 = .ok (.aload_n 0, 1) := by decide +kernel
theorem dL_law_77 : decode cL_law 77 = .ok (.bipush 15, 2) := by decide +kernel
theorem dL_law_79 : decode cL_law 79 = .ok (.iload_n 3, 1) := by decide +kernel
theorem dL_law_80 : decode cL_law 80 = .ok (.bipush 12, 2) := by decide +kernel
theorem dL_law_82 : decode cL_law 82 = .ok (.irem, 1) := by decide +kernel
theorem dL_law_83 : decode cL_law 83 = .ok (.iadd, 1) := by decide +kernel
theorem dL_law_84 : decode cL_law 84 = .ok (.invokestatic 39, 3) := by decide +kernel
theorem dL_law_87 : decode cL_law 87 = .ok (.iload_n 3, 1) := by decide +kernel
theorem dL_law_88 : decode cL_law 88 = .ok (.bipush 12, 2) := by decide +kernel
theorem dL_law_90 : decode cL_law 90 = .ok (.idiv, 1) := by decide +kernel
theorem dL_law_91 : decode cL_law 91 = .ok (.iconst 3, 1) := by decide +kernel
theorem dL_law_92 : decode cL_law 92 = .ok (.imul, 1) := by decide +kernel
theorem dL_law_93 : decode cL_law 93 = .ok (.iushr, 1) := by decide +kernel
theorem dL_law_94 : decode cL_law 94 = .ok (.invokevirtual 360, 3) := by decide +kernel
theorem dL_law_97 : decode cL_law 97 = .ok (.ifCond .eq 11, 3) := by decide +kernel
theorem dL_law_100 : decode cL_law 100 = .ok (.aload_n 1, 1) := by decide +kernel
theorem dL_law_101 : decode cL_law 101 = .ok (.aload_n 2, 1) := by decide +kernel
theorem dL_law_102 : decode cL_law 102 = .ok (.invokevirtual 356, 3) := by decide +kernel
theorem dL_law_105 : decode cL_law 105 = .ok (.ifCond .ne 5, 3) := by decide +kernel
theorem dL_law_108 : decode cL_law 108 = .ok (.iconst 0, 1) := by decide +kernel
theorem dL_law_109 : decode cL_law 109 = .ok (.ireturn, 1) := by decide +kernel
theorem dL_law_110 : decode cL_law 110 = .ok (.iinc 3 1, 3) := by decide +kernel
theorem dL_law_113 : decode cL_law 113 = .ok (.goto (-45), 3) := by decide +kernel
theorem dL_law_116 : decode cL_law 116 = .ok (.iconst 1, 1) := by decide +kernel
theorem dL_law_117 : decode cL_law 117 = .ok (.ireturn, 1) := by decide +kernel
