theorem dX3_init_0 : decode cX3_init 0 = .ok (.aload_n 0, 1) := by decide +kernel
theorem dX3_init_1 : decode cX3_init 1 = .ok (.invokespecial 3, 3) := by decide +kernel
theorem dX3_init_4 : decode cX3_init 4 = .ok (.aload_n 0, 1) := by decide +kernel
theorem dX3_init_5 : decode cX3_init 5 = .ok (.sipush 900, 3) := by decide +kernel
theorem dX3_init_8 : decode cX3_init 8 = .ok (.newarray .byte, 2) := by decide +kernel
theorem dX3_init_10 : decode cX3_init 10 = .ok (.putfield 9, 3) := by decide +kernel
theorem dX3_init_13 : decode cX3_init 13 = .ok (.aload_n 0, 1) := by decide +kernel
theorem dX3_init_14 : decode cX3_init 14 = .ok (.iconst 0, 1) := by decide +kernel
theorem dX3_init_15 : decode cX3_init 15 = .ok (.putfield 15, 3) := by decide +kernel
theorem dX3_init_18 : decode cX3_init 18 = .ok (.aload_n 0, 1) := by decide +kernel
theorem dX3_init_19 : decode cX3_init 19 = .ok (.iconst 0, 1) := by decide +kernel
theorem dX3_init_20 : decode cX3_init 20 = .ok (.putfield 19, 3) := by decide +kernel
theorem dX3_init_23 : decode cX3_init 23 = .ok (.aload_n 0, 1) := by decide +kernel
theorem dX3_init_24 : decode cX3_init 24 = .ok (.iconst (-1), 1) := by decide +kernel
theorem dX3_init_25 : decode cX3_init 25 = .ok (.putfield 22, 3) := by decide +kernel
theorem dX3_init_28 : decode cX3_init 28 = .ok (.aload_n 0, 1) := by decide +kernel
theorem dX3_init_29 : decode cX3_init 29 = .ok (.new 25, 3) := by decide +kernel
theorem dX3_init_32 : decode cX3_init 32 = .ok (.dup, 1) := by decide +kernel
theorem dX3_init_33 : decode cX3_init 33 = .ok (.new 27, 3) := by decide +kernel
theorem dX3_init_36 : decode cX3_init 36 = .ok (.dup, 1) := by decide +kernel
theorem dX3_init_37 : decode cX3_init 37 = .ok (.invokespecial 29, 3) := by decide +kernel
theorem dX3_init_40 : decode cX3_init 40 = .ok (.invokespecial 30, 3) := by decide +kernel
theorem dX3_init_43 : decode cX3_init 43 = .ok (.putfield 33, 3) := by decide +kernel
theorem dX3_init_46 : decode cX3_init 46 = .ok (.aload_n 0, 1) := by decide +kernel
theorem dX3_init_47 : decode cX3_init 47 = .ok (.iconst 0, 1) := by decide +kernel
theorem dX3_init_48 : decode cX3_init 48 = .ok (.putfield 37, 3) := by decide +kernel
theorem dX3_init_51 : decode cX3_init 51 = .ok (.aload_n 0, 1) := by decide +kernel
theorem dX3_init_52 : decode cX3_init 52 = .ok (.iconst 0, 1) := by decide +kernel
theorem dX3_init_53 : decode cX3_init 53 = .ok (.putfield 41, 3) := by decide +kernel
theorem dX3_init_56 : decode cX3_init 56 = .ok (.aload_n 0, 1) := by decide +kernel
theorem dX3_init_57 : decode cX3_init 57 = .ok (.iconst 0, 1) := by decide +kernel
theorem dX3_init_58 : decode cX3_init 58 = .ok (.putfield 44, 3) := by decide +kernel
theorem dX3_init_61 : decode cX3_init 61 = .ok (.aload_n 0, 1) := by decide +kernel
theorem dX3_init_62 : decode cX3_init 62 = .ok (.iconst 0, 1) := by decide +kernel
theorem dX3_init_63 : decode cX3_init 63 = .ok (.putfield 47, 3) := by decide +kernel
theorem dX3_init_66 : decode cX3_init 66 = .ok (.aload_n 0, 1) := by decide +kernel
theorem dX3_init_67 : decode cX3_init 67 = .ok (.iconst 0, 1) := by decide +kernel
theorem dX3_init_68 : decode cX3_init 68 = .ok (.putfield 50, 3) := by decide +kernel
theorem dX3_init_71 : decode cX3_init 71 = .ok (.aload_n 0, 1) := by decide +kernel
theorem dX3_init_72 : decode cX3_init 72 = .ok (.iconst 0, 1) := by decide +kernel
theorem dX3_init_73 : decode cX3_init 73 = .ok (.putfield 53, 3) := by decide +kernel
theorem dX3_init_76 : decode cX3_init 76 = .ok (.aload_n 0, 1) := by decide +kernel
theorem dX3_init_77 : decode cX3_init 77 = .ok (.aconst_null, 1) := by decide +kernel
theorem dX3_init_78 : decode cX3_init 78 = .ok (.putfield 56, 3) := by decide +kernel
theorem dX3_init_81 : decode cX3_init 81 = .ok (.return_, 1) := by decide +kernel
theorem dX3_append_0 : decode cX3_append 0 = .ok (.bipush 24, 2) := by decide +kernel
theorem dX3_append_2 : decode cX3_append 2 = .ok (.istore_n 2, 1) := by decide +kernel
theorem dX3_append_3 : decode cX3_append 3 = .ok (.iload_n 2, 1) := by decide +kernel
theorem dX3_append_4 : decode cX3_append 4 = .ok (.ifCond .lt 42, 3) := by decide +kernel
theorem dX3_append_7 : decode cX3_append 7 = .ok (.aload_n 0, 1) := by decide +kernel
theorem dX3_append_8 : decode cX3_append 8 = .ok (.getfield 15, 3) := by decide +kernel
theorem dX3_append_11 : decode cX3_append 11 = .ok (.sipush 900, 3) := by decide +kernel
theorem dX3_append_14 : decode cX3_append 14 = .ok (.if_icmp .ge 32, 3) := by decide +kernel
theorem dX3_append_17 : decode cX3_append 17 = .ok (.aload_n 0, 1) := by decide +kernel
theorem dX3_append_18 : decode cX3_append 18 = .ok (.getfield 9, 3) := by decide +kernel
theorem dX3_append_21 : decode cX3_append 21 = .ok (.aload_n 0, 1) := by decide +kernel
theorem dX3_append_22 : decode cX3_append 22 = .ok (.getfield 15, 3) := by decide +kernel
theorem dX3_append_25 : decode cX3_append 25 = .ok (.iload_n 1, 1) := by decide +kernel
theorem dX3_append_26 : decode cX3_append 26 = .ok (.iload_n 2, 1) := by decide +kernel
theorem dX3_append_27 : decode cX3_append 27 = .ok (.ishr, 1) := by decide +kernel
theorem dX3_append_28 : decode cX3_append 28 = .ok (.i2b, 1) := by decide +kernel
theorem dX3_append_29 : decode cX3_append 29 = .ok (.bastore, 1) := by decide +kernel
theorem dX3_append_30 : decode cX3_append 30 = .ok (.aload_n 0, 1) := by decide +kernel
theorem dX3_append_31 : decode cX3_append 31 = .ok (.dup, 1) := by decide +kernel
theorem dX3_append_32 : decode cX3_append 32 = .ok (.getfield 15, 3) := by decide +kernel
theorem dX3_append_35 : decode cX3_append 35 = .ok (.iconst 1, 1) := by decide +kernel
theorem dX3_append_36 : decode cX3_append 36 = .ok (.iadd, 1) := by decide +kernel
theorem dX3_append_37 : decode cX3_append 37 = .ok (.putfield 15, 3) := by decide +kernel
theorem dX3_append_40 : decode cX3_append 40 = .ok (.iinc 2 (-8), 3) := by decide +kernel
theorem dX3_append_43 : decode cX3_append 43 = .ok (.goto (-40), 3) := by decide +kernel
theorem dX3_append_46 : decode cX3_append 46 = .ok (.return_, 1) := by decide +kernel
theorem dX3_readSetup_0 : decode cX3_readSetup 0 = .ok (.aload_n 0, 1) := by decide +kernel
theorem dX3_readSetup_1 : decode cX3_readSetup 1 = .ok (.getfield 33, 3) := by decide +kernel
theorem dX3_readSetup_4 : decode cX3_readSetup 4 = .ok (.getfield 60, 3) := by decide +kernel
theorem dX3_readSetup_7 : decode cX3_readSetup 7 = .ok (.invokevirtual 64, 3) := by decide +kernel
theorem dX3_readSetup_10 : decode cX3_readSetup 10 = .ok (.aload_n 0, 1) := by decide +kernel
theorem dX3_readSetup_11 : decode cX3_readSetup 11 = .ok (.getfield 33, 3) := by decide +kernel
theorem dX3_readSetup_14 : decode cX3_readSetup 14 = .ok (.invokevirtual 67, 3) := by decide +kernel
theorem dX3_readSetup_17 : decode cX3_readSetup 17 = .ok (.aload_n 0, 1) := by decide +kernel
theorem dX3_readSetup_18 : decode cX3_readSetup 18 = .ok (.iconst 0, 1) := by decide +kernel
theorem dX3_readSetup_19 : decode cX3_readSetup 19 = .ok (.putfield 19, 3) := by decide +kernel
theorem dX3_readSetup_22 : decode cX3_readSetup 22 = .ok (.aload_n 0, 1) := by decide +kernel
theorem dX3_readSetup_23 : decode cX3_readSetup 23 = .ok (.iconst (-1), 1) := by decide +kernel
theorem dX3_readSetup_24 : decode cX3_readSetup 24 = .ok (.putfield 22, 3) := by decide +kernel
theorem dX3_readSetup_27 : decode cX3_readSetup 27 = .ok (.aload_n 0, 1) := by decide +kernel
theorem dX3_readSetup_28 : decode cX3_readSetup 28 = .ok (.iconst 0, 1) := by decide +kernel
theorem dX3_readSetup_29 : decode cX3_readSetup 29 = .ok (.putfield 37, 3) := by decide +kernel
theorem dX3_readSetup_32 : decode cX3_readSetup 32 = .ok (.aload_n 0, 1) := by decide +kernel
theorem dX3_readSetup_33 : decode cX3_readSetup 33 = .ok (.iconst 0, 1) := by decide +kernel
theorem dX3_readSetup_34 : decode cX3_readSetup 34 = .ok (.putfield 41, 3) := by decide +kernel
theorem dX3_readSetup_37 : decode cX3_readSetup 37 = .ok (.aload_n 0, 1) := by decide +kernel
theorem dX3_readSetup_38 : decode cX3_readSetup 38 = .ok (.iconst 0, 1) := by decide +kernel
theorem dX3_readSetup_39 : decode cX3_readSetup 39 = .ok (.putfield 44, 3) := by decide +kernel
theorem dX3_readSetup_42 : decode cX3_readSetup 42 = .ok (.aload_n 0, 1) := by decide +kernel
theorem dX3_readSetup_43 : decode cX3_readSetup 43 = .ok (.iconst 0, 1) := by decide +kernel
theorem dX3_readSetup_44 : decode cX3_readSetup 44 = .ok (.putfield 53, 3) := by decide +kernel
theorem dX3_readSetup_47 : decode cX3_readSetup 47 = .ok (.aload_n 0, 1) := by decide +kernel
theorem dX3_readSetup_48 : decode cX3_readSetup 48 = .ok (.invokevirtual 68, 3) := by decide +kernel
theorem dX3_readSetup_51 : decode cX3_readSetup 51 = .ok (.aload_n 0, 1) := by decide +kernel
theorem dX3_readSetup_52 : decode cX3_readSetup 52 = .ok (.getfield 15, 3) := by decide +kernel
theorem dX3_readSetup_55 : decode cX3_readSetup 55 = .ok (.istore_n 1, 1) := by decide +kernel
theorem dX3_readSetup_56 : decode cX3_readSetup 56 = .ok (.iload_n 1, 1) := by decide +kernel
theorem dX3_readSetup_57 : decode cX3_readSetup 57 = .ok (.ifCond .le 147, 3) := by decide +kernel
theorem dX3_readSetup_60 : decode cX3_readSetup 60 = .ok (.aload_n 0, 1) := by decide +kernel
theorem dX3_readSetup_61 : decode cX3_readSetup 61 = .ok (.getfield 47, 3) := by decide +kernel
theorem dX3_readSetup_64 : decode cX3_readSetup 64 = .ok (.ifCond .eq 140, 3) := by decide +kernel
theorem dX3_readSetup_67 : decode cX3_readSetup 67 = .ok (.aload_n 0, 1) := by decide +kernel
theorem dX3_readSetup_68 : decode cX3_readSetup 68 = .ok (.getfield 19, 3) := by decide +kernel
theorem dX3_readSetup_71 : decode cX3_readSetup 71 = .ok (.ifCond .ne 133, 3) := by decide +kernel
theorem dX3_readSetup_74 : decode cX3_readSetup 74 = .ok (.aload_n 0, 1) := by decide +kernel
theorem dX3_readSetup_75 : decode cX3_readSetup 75 = .ok (.getfield 56, 3) := by decide +kernel
theorem dX3_readSetup_78 : decode cX3_readSetup 78 = .ok (.getstatic 71, 3) := by decide +kernel
theorem dX3_readSetup_81 : decode cX3_readSetup 81 = .ok (.if_acmp .ne 10, 3) := by decide +kernel
theorem dX3_readSetup_84 : decode cX3_readSetup 84 = .ok (.aload_n 0, 1) := by decide +kernel
theorem dX3_readSetup_85 : decode cX3_readSetup 85 = .ok (.invokevirtual 76, 3) := by decide +kernel
theorem dX3_readSetup_88 : decode cX3_readSetup 88 = .ok (.goto 110, 3) := by decide +kernel
theorem dX3_readSetup_91 : decode cX3_readSetup 91 = .ok (.aload_n 0, 1) := by decide +kernel
theorem dX3_readSetup_92 : decode cX3_readSetup 92 = .ok (.getfield 56, 3) := by decide +kernel
theorem dX3_readSetup_95 : decode cX3_readSetup 95 = .ok (.getstatic 79, 3) := by decide +kernel
theorem dX3_readSetup_98 : decode cX3_readSetup 98 = .ok (.if_acmp .ne 10, 3) := by decide +kernel
theorem dX3_readSetup_101 : decode cX3_readSetup 101 = .ok (.aload_n 0, 1) := by decide +kernel
theorem dX3_readSetup_102 : decode cX3_readSetup 102 = .ok (.invokevirtual 82, 3) := by decide +kernel
theorem dX3_readSetup_105 : decode cX3_readSetup 105 = .ok (.goto 93, 3) := by decide +kernel
theorem dX3_readSetup_108 : decode cX3_readSetup 108 = .ok (.aload_n 0, 1) := by decide +kernel
theorem dX3_readSetup_109 : decode cX3_readSetup 109 = .ok (.getfield 56, 3) := by decide +kernel
theorem dX3_readSetup_112 : decode cX3_readSetup 112 = .ok (.getstatic 85, 3) := by decide +kernel
theorem dX3_readSetup_115 : decode cX3_readSetup 115 = .ok (.if_acmp .ne 10, 3) := by decide +kernel
theorem dX3_readSetup_118 : decode cX3_readSetup 118 = .ok (.aload_n 0, 1) := by decide +kernel
theorem dX3_readSetup_119 : decode cX3_readSetup 119 = .ok (.invokevirtual 88, 3) := by decide +kernel
theorem dX3_readSetup_122 : decode cX3_readSetup 122 = .ok (.goto 76, 3) := by decide +kernel
theorem dX3_readSetup_125 : decode cX3_readSetup 125 = .ok (.aload_n 0, 1) := by decide +kernel
theorem dX3_readSetup_126 : decode cX3_readSetup 126 = .ok (.getfield 56, 3) := by decide +kernel
theorem dX3_readSetup_129 : decode cX3_readSetup 129 = .ok (.getstatic 91, 3) := by decide +kernel
theorem dX3_readSetup_132 : decode cX3_readSetup 132 = .ok (.if_acmp .ne 10, 3) := by decide +kernel
theorem dX3_readSetup_135 : decode cX3_readSetup 135 = .ok (.aload_n 0, 1) := by decide +kernel
theorem dX3_readSetup_136 : decode cX3_readSetup 136 = .ok (.invokevirtual 94, 3) := by decide +kernel
theorem dX3_readSetup_139 : decode cX3_readSetup 139 = .ok (.goto 59, 3) := by decide +kernel
theorem dX3_readSetup_142 : decode cX3_readSetup 142 = .ok (.aload_n 0, 1) := by decide +kernel
theorem dX3_readSetup_143 : decode cX3_readSetup 143 = .ok (.getfield 56, 3) := by decide +kernel
theorem dX3_readSetup_146 : decode cX3_readSetup 146 = .ok (.getstatic 97, 3) := by decide +kernel
theorem dX3_readSetup_149 : decode cX3_readSetup 149 = .ok (.if_acmp .ne 10, 3) := by decide +kernel
theorem dX3_readSetup_152 : decode cX3_readSetup 152 = .ok (.aload_n 0, 1) := by decide +kernel
theorem dX3_readSetup_153 : decode cX3_readSetup 153 = .ok (.invokevirtual 100, 3) := by decide +kernel
theorem dX3_readSetup_156 : decode cX3_readSetup 156 = .ok (.goto 42, 3) := by decide +kernel
theorem dX3_readSetup_159 : decode cX3_readSetup 159 = .ok (.aload_n 0, 1) := by decide +kernel
theorem dX3_readSetup_160 : decode cX3_readSetup 160 = .ok (.getfield 56, 3) := by decide +kernel
theorem dX3_readSetup_163 : decode cX3_readSetup 163 = .ok (.getstatic 103, 3) := by decide +kernel
theorem dX3_readSetup_166 : decode cX3_readSetup 166 = .ok (.if_acmp .ne 10, 3) := by decide +kernel
theorem dX3_readSetup_169 : decode cX3_readSetup 169 = .ok (.aload_n 0, 1) := by decide +kernel
theorem dX3_readSetup_170 : decode cX3_readSetup 170 = .ok (.invokevirtual 106, 3) := by decide +kernel
theorem dX3_readSetup_173 : decode cX3_readSetup 173 = .ok (.goto 25, 3) := by decide +kernel
theorem dX3_readSetup_176 : decode cX3_readSetup 176 = .ok (.aload_n 0, 1) := by decide +kernel
theorem dX3_readSetup_177 : decode cX3_readSetup 177 = .ok (.getfield 56, 3) := by decide +kernel
theorem dX3_readSetup_180 : decode cX3_readSetup 180 = .ok (.getstatic 109, 3) := by decide +kernel
theorem dX3_readSetup_183 : decode cX3_readSetup 183 = .ok (.if_acmp .ne 10, 3) := by decide +kernel
theorem dX3_readSetup_186 : decode cX3_readSetup 186 = .ok (.aload_n 0, 1) := by decide +kernel
theorem dX3_readSetup_187 : decode cX3_readSetup 187 = .ok (.invokevirtual 112, 3) := by decide +kernel
theorem dX3_readSetup_190 : decode cX3_readSetup 190 = .ok (.goto 8, 3) := by decide +kernel
theorem dX3_readSetup_193 : decode cX3_readSetup 193 = .ok (.aload_n 0, 1) := by decide +kernel
theorem dX3_readSetup_194 : decode cX3_readSetup 194 = .ok (.iconst 1, 1) := by decide +kernel
theorem dX3_readSetup_195 : decode cX3_readSetup 195 = .ok (.invokevirtual 115, 3) := by decide +kernel
theorem dX3_readSetup_198 : decode cX3_readSetup 198 = .ok (.iinc 1 (-1), 3) := by decide +kernel
theorem dX3_readSetup_201 : decode cX3_readSetup 201 = .ok (.goto (-145), 3) := by decide +kernel
theorem dX3_readSetup_204 : decode cX3_readSetup 204 = .ok (.return_, 1) := by decide +kernel
theorem dX3_readSchool_0 : decode cX3_readSchool 0 = .ok (.aload_n 0, 1) := by decide +kernel
theorem dX3_readSchool_1 : decode cX3_readSchool 1 = .ok (.getfield 33, 3) := by decide +kernel
theorem dX3_readSchool_4 : decode cX3_readSchool 4 = .ok (.getfield 60, 3) := by decide +kernel
theorem dX3_readSchool_7 : decode cX3_readSchool 7 = .ok (.getfield 119, 3) := by decide +kernel
theorem dX3_readSchool_10 : decode cX3_readSchool 10 = .ok (.bipush 8, 2) := by decide +kernel
theorem dX3_readSchool_12 : decode cX3_readSchool 12 = .ok (.if_icmp .lt 9, 3) := by decide +kernel
theorem dX3_readSchool_15 : decode cX3_readSchool 15 = .ok (.aload_n 0, 1) := by decide +kernel
theorem dX3_readSchool_16 : decode cX3_readSchool 16 = .ok (.iconst 4, 1) := by decide +kernel
theorem dX3_readSchool_17 : decode cX3_readSchool 17 = .ok (.invokevirtual 115, 3) := by decide +kernel
theorem dX3_readSchool_20 : decode cX3_readSchool 20 = .ok (.return_, 1) := by decide +kernel
theorem dX3_readSchool_21 : decode cX3_readSchool 21 = .ok (.aload_n 0, 1) := by decide +kernel
theorem dX3_readSchool_22 : decode cX3_readSchool 22 = .ok (.invokevirtual 68, 3) := by decide +kernel
theorem dX3_readSchool_25 : decode cX3_readSchool 25 = .ok (.aload_n 0, 1) := by decide +kernel
theorem dX3_readSchool_26 : decode cX3_readSchool 26 = .ok (.invokevirtual 122, 3) := by decide +kernel
theorem dX3_readSchool_29 : decode cX3_readSchool 29 = .ok (.istore_n 1, 1) := by decide +kernel
theorem dX3_readSchool_30 : decode cX3_readSchool 30 = .ok (.iload_n 1, 1) := by decide +kernel
theorem dX3_readSchool_31 : decode cX3_readSchool 31 = .ok (.iconst (-1), 1) := by decide +kernel
theorem dX3_readSchool_32 : decode cX3_readSchool 32 = .ok (.if_icmp .ne 4, 3) := by decide +kernel
theorem dX3_readSchool_35 : decode cX3_readSchool 35 = .ok (.return_, 1) := by decide +kernel
theorem dX3_readSchool_36 : decode cX3_readSchool 36 = .ok (.aload_n 0, 1) := by decide +kernel
theorem dX3_readSchool_37 : decode cX3_readSchool 37 = .ok (.getfield 33, 3) := by decide +kernel
theorem dX3_readSchool_40 : decode cX3_readSchool 40 = .ok (.getfield 60, 3) := by decide +kernel
theorem dX3_readSchool_43 : decode cX3_readSchool 43 = .ok (.iload_n 1, 1) := by decide +kernel
theorem dX3_readSchool_44 : decode cX3_readSchool 44 = .ok (.invokevirtual 126, 3) := by decide +kernel
theorem dX3_readSchool_47 : decode cX3_readSchool 47 = .ok (.iconst (-1), 1) := by decide +kernel
theorem dX3_readSchool_48 : decode cX3_readSchool 48 = .ok (.if_icmp .eq 9, 3) := by decide +kernel
theorem dX3_readSchool_51 : decode cX3_readSchool 51 = .ok (.aload_n 0, 1) := by decide +kernel
theorem dX3_readSchool_52 : decode cX3_readSchool 52 = .ok (.iconst 3, 1) := by decide +kernel
theorem dX3_readSchool_53 : decode cX3_readSchool 53 = .ok (.invokevirtual 115, 3) := by decide +kernel
theorem dX3_readSchool_56 : decode cX3_readSchool 56 = .ok (.return_, 1) := by decide +kernel
theorem dX3_readSchool_57 : decode cX3_readSchool 57 = .ok (.aload_n 0, 1) := by decide +kernel
theorem dX3_readSchool_58 : decode cX3_readSchool 58 = .ok (.invokevirtual 68, 3) := by decide +kernel
theorem dX3_readSchool_61 : decode cX3_readSchool 61 = .ok (.aload_n 0, 1) := by decide +kernel
theorem dX3_readSchool_62 : decode cX3_readSchool 62 = .ok (.iconst 0, 1) := by decide +kernel
theorem dX3_readSchool_63 : decode cX3_readSchool 63 = .ok (.bipush 40, 2) := by decide +kernel
theorem dX3_readSchool_65 : decode cX3_readSchool 65 = .ok (.invokevirtual 130, 3) := by decide +kernel
theorem dX3_readSchool_68 : decode cX3_readSchool 68 = .ok (.istore_n 2, 1) := by decide +kernel
theorem dX3_readSchool_69 : decode cX3_readSchool 69 = .ok (.iload_n 2, 1) := by decide +kernel
theorem dX3_readSchool_70 : decode cX3_readSchool 70 = .ok (.iconst (-1), 1) := by decide +kernel
theorem dX3_readSchool_71 : decode cX3_readSchool 71 = .ok (.if_icmp .ne 7, 3) := by decide +kernel
theorem dX3_readSchool_74 : decode cX3_readSchool 74 = .ok (.iconst (-1), 1) := by decide +kernel
theorem dX3_readSchool_75 : decode cX3_readSchool 75 = .ok (.goto 10, 3) := by decide +kernel
theorem dX3_readSchool_78 : decode cX3_readSchool 78 = .ok (.aload_n 0, 1) := by decide +kernel
theorem dX3_readSchool_79 : decode cX3_readSchool 79 = .ok (.iconst 0, 1) := by decide +kernel
theorem dX3_readSchool_80 : decode cX3_readSchool 80 = .ok (.bipush 99, 2) := by decide +kernel
theorem dX3_readSchool_82 : decode cX3_readSchool 82 = .ok (.invokevirtual 130, 3) := by decide +kernel
theorem dX3_readSchool_85 : decode cX3_readSchool 85 = .ok (.istore_n 3, 1) := by decide +kernel
theorem dX3_readSchool_86 : decode cX3_readSchool 86 = .ok (.iload_n 3, 1) := by decide +kernel
theorem dX3_readSchool_87 : decode cX3_readSchool 87 = .ok (.iconst (-1), 1) := by decide +kernel
theorem dX3_readSchool_88 : decode cX3_readSchool 88 = .ok (.if_icmp .ne 7, 3) := by decide +kernel
theorem dX3_readSchool_91 : decode cX3_readSchool 91 = .ok (.iconst (-1), 1) := by decide +kernel
theorem dX3_readSchool_92 : decode cX3_readSchool 92 = .ok (.goto 10, 3) := by decide +kernel
theorem dX3_readSchool_95 : decode cX3_readSchool 95 = .ok (.aload_n 0, 1) := by decide +kernel
theorem dX3_readSchool_96 : decode cX3_readSchool 96 = .ok (.iconst 0, 1) := by decide +kernel
theorem dX3_readSchool_97 : decode cX3_readSchool 97 = .ok (.bipush 99, 2) := by decide +kernel
theorem dX3_readSchool_99 : decode cX3_readSchool 99 = .ok (.invokevirtual 130, 3) := by decide +kernel
theorem dX3_readSchool_102 : decode cX3_readSchool 102 = .ok (.istore 4, 2) := by decide +kernel
theorem dX3_readSchool_104 : decode cX3_readSchool 104 = .ok (.iload 4, 2) := by decide +kernel
theorem dX3_readSchool_106 : decode cX3_readSchool 106 = .ok (.iconst (-1), 1) := by decide +kernel
theorem dX3_readSchool_107 : decode cX3_readSchool 107 = .ok (.if_icmp .ne 4, 3) := by decide +kernel
theorem dX3_readSchool_110 : decode cX3_readSchool 110 = .ok (.return_, 1) := by decide +kernel
theorem dX3_readSchool_111 : decode cX3_readSchool 111 = .ok (.aload_n 0, 1) := by decide +kernel
theorem dX3_readSchool_112 : decode cX3_readSchool 112 = .ok (.invokevirtual 134, 3) := by decide +kernel
theorem dX3_readSchool_115 : decode cX3_readSchool 115 = .ok (.istore 5, 2) := by decide +kernel
theorem dX3_readSchool_117 : decode cX3_readSchool 117 = .ok (.aload_n 0, 1) := by decide +kernel
theorem dX3_readSchool_118 : decode cX3_readSchool 118 = .ok (.invokevirtual 137, 3) := by decide +kernel
theorem dX3_readSchool_121 : decode cX3_readSchool 121 = .ok (.ifCond .eq 38, 3) := by decide +kernel
theorem dX3_readSchool_124 : decode cX3_readSchool 124 = .ok (.aload_n 0, 1) := by decide +kernel
theorem dX3_readSchool_125 : decode cX3_readSchool 125 = .ok (.getfield 33, 3) := by decide +kernel
theorem dX3_readSchool_128 : decode cX3_readSchool 128 = .ok (.getfield 141, 3) := by decide +kernel
theorem dX3_readSchool_131 : decode cX3_readSchool 131 = .ok (.aload_n 0, 1) := by decide +kernel
theorem dX3_readSchool_132 : decode cX3_readSchool 132 = .ok (.getfield 33, 3) := by decide +kernel
theorem dX3_readSchool_135 : decode cX3_readSchool 135 = .ok (.getfield 60, 3) := by decide +kernel
theorem dX3_readSchool_138 : decode cX3_readSchool 138 = .ok (.getfield 119, 3) := by decide +kernel
theorem dX3_readSchool_141 : decode cX3_readSchool 141 = .ok (.iload_n 2, 1) := by decide +kernel
theorem dX3_readSchool_142 : decode cX3_readSchool 142 = .ok (.iastore, 1) := by decide +kernel
theorem dX3_readSchool_143 : decode cX3_readSchool 143 = .ok (.aload_n 0, 1) := by decide +kernel
theorem dX3_readSchool_144 : decode cX3_readSchool 144 = .ok (.getfield 33, 3) := by decide +kernel
theorem dX3_readSchool_147 : decode cX3_readSchool 147 = .ok (.getfield 60, 3) := by decide +kernel
theorem dX3_readSchool_150 : decode cX3_readSchool 150 = .ok (.iload_n 1, 1) := by decide +kernel
theorem dX3_readSchool_151 : decode cX3_readSchool 151 = .ok (.iload_n 3, 1) := by decide +kernel
theorem dX3_readSchool_152 : decode cX3_readSchool 152 = .ok (.iload 4, 2) := by decide +kernel
theorem dX3_readSchool_154 : decode cX3_readSchool 154 = .ok (.iload 5, 2) := by decide +kernel
theorem dX3_readSchool_156 : decode cX3_readSchool 156 = .ok (.invokevirtual 145, 3) := by decide +kernel
theorem dX3_readSchool_159 : decode cX3_readSchool 159 = .ok (.return_, 1) := by decide +kernel
theorem dX3_readZone_0 : decode cX3_readZone 0 = .ok (.aload_n 0, 1) := by decide +kernel
theorem dX3_readZone_1 : decode cX3_readZone 1 = .ok (.invokevirtual 68, 3) := by decide +kernel
theorem dX3_readZone_4 : decode cX3_readZone 4 = .ok (.aload_n 0, 1) := by decide +kernel
theorem dX3_readZone_5 : decode cX3_readZone 5 = .ok (.invokevirtual 149, 3) := by decide +kernel
theorem dX3_readZone_8 : decode cX3_readZone 8 = .ok (.istore_n 1, 1) := by decide +kernel
theorem dX3_readZone_9 : decode cX3_readZone 9 = .ok (.iload_n 1, 1) := by decide +kernel
theorem dX3_readZone_10 : decode cX3_readZone 10 = .ok (.iconst (-1), 1) := by decide +kernel
theorem dX3_readZone_11 : decode cX3_readZone 11 = .ok (.if_icmp .ne 4, 3) := by decide +kernel
theorem dX3_readZone_14 : decode cX3_readZone 14 = .ok (.return_, 1) := by decide +kernel
theorem dX3_readZone_15 : decode cX3_readZone 15 = .ok (.aload_n 0, 1) := by decide +kernel
theorem dX3_readZone_16 : decode cX3_readZone 16 = .ok (.getfield 33, 3) := by decide +kernel
theorem dX3_readZone_19 : decode cX3_readZone 19 = .ok (.getfield 60, 3) := by decide +kernel
theorem dX3_readZone_22 : decode cX3_readZone 22 = .ok (.iload_n 1, 1) := by decide +kernel
theorem dX3_readZone_23 : decode cX3_readZone 23 = .ok (.invokevirtual 152, 3) := by decide +kernel
theorem dX3_readZone_26 : decode cX3_readZone 26 = .ok (.ifCond .eq 9, 3) := by decide +kernel
theorem dX3_readZone_29 : decode cX3_readZone 29 = .ok (.aload_n 0, 1) := by decide +kernel
theorem dX3_readZone_30 : decode cX3_readZone 30 = .ok (.iconst 3, 1) := by decide +kernel
theorem dX3_readZone_31 : decode cX3_readZone 31 = .ok (.invokevirtual 115, 3) := by decide +kernel
theorem dX3_readZone_34 : decode cX3_readZone 34 = .ok (.return_, 1) := by decide +kernel
theorem dX3_readZone_35 : decode cX3_readZone 35 = .ok (.aload_n 0, 1) := by decide +kernel
theorem dX3_readZone_36 : decode cX3_readZone 36 = .ok (.invokevirtual 68, 3) := by decide +kernel
theorem dX3_readZone_39 : decode cX3_readZone 39 = .ok (.aload_n 0, 1) := by decide +kernel
theorem dX3_readZone_40 : decode cX3_readZone 40 = .ok (.iconst 0, 1) := by decide +kernel
theorem dX3_readZone_41 : decode cX3_readZone 41 = .ok (.bipush 99, 2) := by decide +kernel
theorem dX3_readZone_43 : decode cX3_readZone 43 = .ok (.invokevirtual 130, 3) := by decide +kernel
theorem dX3_readZone_46 : decode cX3_readZone 46 = .ok (.istore_n 2, 1) := by decide +kernel
theorem dX3_readZone_47 : decode cX3_readZone 47 = .ok (.iload_n 2, 1) := by decide +kernel
theorem dX3_readZone_48 : decode cX3_readZone 48 = .ok (.iconst (-1), 1) := by decide +kernel
theorem dX3_readZone_49 : decode cX3_readZone 49 = .ok (.if_icmp .ne 7, 3) := by decide +kernel
theorem dX3_readZone_52 : decode cX3_readZone 52 = .ok (.iconst (-1), 1) := by decide +kernel
theorem dX3_readZone_53 : decode cX3_readZone 53 = .ok (.goto 10, 3) := by decide +kernel
theorem dX3_readZone_56 : decode cX3_readZone 56 = .ok (.aload_n 0, 1) := by decide +kernel
theorem dX3_readZone_57 : decode cX3_readZone 57 = .ok (.iconst 0, 1) := by decide +kernel
theorem dX3_readZone_58 : decode cX3_readZone 58 = .ok (.bipush 99, 2) := by decide +kernel
theorem dX3_readZone_60 : decode cX3_readZone 60 = .ok (.invokevirtual 130, 3) := by decide +kernel
theorem dX3_readZone_63 : decode cX3_readZone 63 = .ok (.istore_n 3, 1) := by decide +kernel
theorem dX3_readZone_64 : decode cX3_readZone 64 = .ok (.iload_n 3, 1) := by decide +kernel
theorem dX3_readZone_65 : decode cX3_readZone 65 = .ok (.iconst (-1), 1) := by decide +kernel
theorem dX3_readZone_66 : decode cX3_readZone 66 = .ok (.if_icmp .ne 7, 3) := by decide +kernel
theorem dX3_readZone_69 : decode cX3_readZone 69 = .ok (.iconst (-1), 1) := by decide +kernel
theorem dX3_readZone_70 : decode cX3_readZone 70 = .ok (.goto 10, 3) := by decide +kernel
theorem dX3_readZone_73 : decode cX3_readZone 73 = .ok (.aload_n 0, 1) := by decide +kernel
theorem dX3_readZone_74 : decode cX3_readZone 74 = .ok (.iload_n 2, 1) := by decide +kernel
theorem dX3_readZone_75 : decode cX3_readZone 75 = .ok (.bipush 99, 2) := by decide +kernel
theorem dX3_readZone_77 : decode cX3_readZone 77 = .ok (.invokevirtual 130, 3) := by decide +kernel
theorem dX3_readZone_80 : decode cX3_readZone 80 = .ok (.istore 4, 2) := by decide +kernel
theorem dX3_readZone_82 : decode cX3_readZone 82 = .ok (.iload 4, 2) := by decide +kernel
theorem dX3_readZone_84 : decode cX3_readZone 84 = .ok (.iconst (-1), 1) := by decide +kernel
theorem dX3_readZone_85 : decode cX3_readZone 85 = .ok (.if_icmp .ne 7, 3) := by decide +kernel
theorem dX3_readZone_88 : decode cX3_readZone 88 = .ok (.iconst (-1), 1) := by decide +kernel
theorem dX3_readZone_89 : decode cX3_readZone 89 = .ok (.goto 10, 3) := by decide +kernel
theorem dX3_readZone_92 : decode cX3_readZone 92 = .ok (.aload_n 0, 1) := by decide +kernel
theorem dX3_readZone_93 : decode cX3_readZone 93 = .ok (.iload_n 3, 1) := by decide +kernel
theorem dX3_readZone_94 : decode cX3_readZone 94 = .ok (.bipush 99, 2) := by decide +kernel
theorem dX3_readZone_96 : decode cX3_readZone 96 = .ok (.invokevirtual 130, 3) := by decide +kernel
theorem dX3_readZone_99 : decode cX3_readZone 99 = .ok (.istore 5, 2) := by decide +kernel
theorem dX3_readZone_101 : decode cX3_readZone 101 = .ok (.iload 5, 2) := by decide +kernel
theorem dX3_readZone_103 : decode cX3_readZone 103 = .ok (.iconst (-1), 1) := by decide +kernel
theorem dX3_readZone_104 : decode cX3_readZone 104 = .ok (.if_icmp .eq 27, 3) := by decide +kernel
theorem dX3_readZone_107 : decode cX3_readZone 107 = .ok (.aload_n 0, 1) := by decide +kernel
theorem dX3_readZone_108 : decode cX3_readZone 108 = .ok (.invokevirtual 137, 3) := by decide +kernel
theorem dX3_readZone_111 : decode cX3_readZone 111 = .ok (.ifCond .eq 20, 3) := by decide +kernel
theorem dX3_readZone_114 : decode cX3_readZone 114 = .ok (.aload_n 0, 1) := by decide +kernel
theorem dX3_readZone_115 : decode cX3_readZone 115 = .ok (.getfield 33, 3) := by decide +kernel
theorem dX3_readZone_118 : decode cX3_readZone 118 = .ok (.getfield 60, 3) := by decide +kernel
theorem dX3_readZone_121 : decode cX3_readZone 121 = .ok (.iload_n 1, 1) := by decide +kernel
theorem dX3_readZone_122 : decode cX3_readZone 122 = .ok (.iload_n 2, 1) := by decide +kernel
theorem dX3_readZone_123 : decode cX3_readZone 123 = .ok (.iload_n 3, 1) := by decide +kernel
theorem dX3_readZone_124 : decode cX3_readZone 124 = .ok (.iload 4, 2) := by decide +kernel
theorem dX3_readZone_126 : decode cX3_readZone 126 = .ok (.iload 5, 2) := by decide +kernel
theorem dX3_readZone_128 : decode cX3_readZone 128 = .ok (.invokevirtual 156, 3) := by decide +kernel
theorem dX3_readZone_131 : decode cX3_readZone 131 = .ok (.return_, 1) := by decide +kernel
theorem dX3_readPupil_0 : decode cX3_readPupil 0 = .ok (.aload_n 0, 1) := by decide +kernel
theorem dX3_readPupil_1 : decode cX3_readPupil 1 = .ok (.getfield 33, 3) := by decide +kernel
theorem dX3_readPupil_4 : decode cX3_readPupil 4 = .ok (.getfield 60, 3) := by decide +kernel
theorem dX3_readPupil_7 : decode cX3_readPupil 7 = .ok (.getfield 160, 3) := by decide +kernel
theorem dX3_readPupil_10 : decode cX3_readPupil 10 = .ok (.bipush 20, 2) := by decide +kernel
theorem dX3_readPupil_12 : decode cX3_readPupil 12 = .ok (.if_icmp .lt 9, 3) := by decide +kernel
theorem dX3_readPupil_15 : decode cX3_readPupil 15 = .ok (.aload_n 0, 1) := by decide +kernel
theorem dX3_readPupil_16 : decode cX3_readPupil 16 = .ok (.iconst 4, 1) := by decide +kernel
theorem dX3_readPupil_17 : decode cX3_readPupil 17 = .ok (.invokevirtual 115, 3) := by decide +kernel
theorem dX3_readPupil_20 : decode cX3_readPupil 20 = .ok (.return_, 1) := by decide +kernel
theorem dX3_readPupil_21 : decode cX3_readPupil 21 = .ok (.aload_n 0, 1) := by decide +kernel
theorem dX3_readPupil_22 : decode cX3_readPupil 22 = .ok (.invokevirtual 68, 3) := by decide +kernel
theorem dX3_readPupil_25 : decode cX3_readPupil 25 = .ok (.aload_n 0, 1) := by decide +kernel
theorem dX3_readPupil_26 : decode cX3_readPupil 26 = .ok (.iconst 1, 1) := by decide +kernel
theorem dX3_readPupil_27 : decode cX3_readPupil 27 = .ok (.bipush 99, 2) := by decide +kernel
theorem dX3_readPupil_29 : decode cX3_readPupil 29 = .ok (.invokevirtual 130, 3) := by decide +kernel
theorem dX3_readPupil_32 : decode cX3_readPupil 32 = .ok (.istore_n 1, 1) := by decide +kernel
theorem dX3_readPupil_33 : decode cX3_readPupil 33 = .ok (.iload_n 1, 1) := by decide +kernel
theorem dX3_readPupil_34 : decode cX3_readPupil 34 = .ok (.iconst (-1), 1) := by decide +kernel
theorem dX3_readPupil_35 : decode cX3_readPupil 35 = .ok (.if_icmp .ne 7, 3) := by decide +kernel
theorem dX3_readPupil_38 : decode cX3_readPupil 38 = .ok (.iconst (-1), 1) := by decide +kernel
theorem dX3_readPupil_39 : decode cX3_readPupil 39 = .ok (.goto 7, 3) := by decide +kernel
theorem dX3_readPupil_42 : decode cX3_readPupil 42 = .ok (.aload_n 0, 1) := by decide +kernel
theorem dX3_readPupil_43 : decode cX3_readPupil 43 = .ok (.invokevirtual 149, 3) := by decide +kernel
theorem dX3_readPupil_46 : decode cX3_readPupil 46 = .ok (.istore_n 2, 1) := by decide +kernel
theorem dX3_readPupil_47 : decode cX3_readPupil 47 = .ok (.iload_n 2, 1) := by decide +kernel
theorem dX3_readPupil_48 : decode cX3_readPupil 48 = .ok (.iconst (-1), 1) := by decide +kernel
theorem dX3_readPupil_49 : decode cX3_readPupil 49 = .ok (.if_icmp .ne 4, 3) := by decide +kernel
theorem dX3_readPupil_52 : decode cX3_readPupil 52 = .ok (.return_, 1) := by decide +kernel
theorem dX3_readPupil_53 : decode cX3_readPupil 53 = .ok (.aload_n 0, 1) := by decide +kernel
theorem dX3_readPupil_54 : decode cX3_readPupil 54 = .ok (.invokevirtual 68, 3) := by decide +kernel
theorem dX3_readPupil_57 : decode cX3_readPupil 57 = .ok (.aload_n 0, 1) := by decide +kernel
theorem dX3_readPupil_58 : decode cX3_readPupil 58 = .ok (.invokevirtual 137, 3) := by decide +kernel
theorem dX3_readPupil_61 : decode cX3_readPupil 61 = .ok (.ifCond .eq 15, 3) := by decide +kernel
theorem dX3_readPupil_64 : decode cX3_readPupil 64 = .ok (.aload_n 0, 1) := by decide +kernel
theorem dX3_readPupil_65 : decode cX3_readPupil 65 = .ok (.getfield 33, 3) := by decide +kernel
theorem dX3_readPupil_68 : decode cX3_readPupil 68 = .ok (.getfield 60, 3) := by decide +kernel
theorem dX3_readPupil_71 : decode cX3_readPupil 71 = .ok (.iload_n 1, 1) := by decide +kernel
theorem dX3_readPupil_72 : decode cX3_readPupil 72 = .ok (.iload_n 2, 1) := by decide +kernel
theorem dX3_readPupil_73 : decode cX3_readPupil 73 = .ok (.invokevirtual 163, 3) := by decide +kernel
theorem dX3_readPupil_76 : decode cX3_readPupil 76 = .ok (.return_, 1) := by decide +kernel
theorem dX3_readChild_0 : decode cX3_readChild 0 = .ok (.aload_n 0, 1) := by decide +kernel
theorem dX3_readChild_1 : decode cX3_readChild 1 = .ok (.getfield 33, 3) := by decide +kernel
theorem dX3_readChild_4 : decode cX3_readChild 4 = .ok (.getfield 167, 3) := by decide +kernel
theorem dX3_readChild_7 : decode cX3_readChild 7 = .ok (.bipush 40, 2) := by decide +kernel
theorem dX3_readChild_9 : decode cX3_readChild 9 = .ok (.if_icmp .lt 9, 3) := by decide +kernel
theorem dX3_readChild_12 : decode cX3_readChild 12 = .ok (.aload_n 0, 1) := by decide +kernel
theorem dX3_readChild_13 : decode cX3_readChild 13 = .ok (.iconst 4, 1) := by decide +kernel
theorem dX3_readChild_14 : decode cX3_readChild 14 = .ok (.invokevirtual 115, 3) := by decide +kernel
theorem dX3_readChild_17 : decode cX3_readChild 17 = .ok (.return_, 1) := by decide +kernel
theorem dX3_readChild_18 : decode cX3_readChild 18 = .ok (.aload_n 0, 1) := by decide +kernel
theorem dX3_readChild_19 : decode cX3_readChild 19 = .ok (.invokevirtual 68, 3) := by decide +kernel
theorem dX3_readChild_22 : decode cX3_readChild 22 = .ok (.aload_n 0, 1) := by decide +kernel
theorem dX3_readChild_23 : decode cX3_readChild 23 = .ok (.iconst 0, 1) := by decide +kernel
theorem dX3_readChild_24 : decode cX3_readChild 24 = .ok (.bipush 99, 2) := by decide +kernel
theorem dX3_readChild_26 : decode cX3_readChild 26 = .ok (.invokevirtual 130, 3) := by decide +kernel
theorem dX3_readChild_29 : decode cX3_readChild 29 = .ok (.istore_n 1, 1) := by decide +kernel
theorem dX3_readChild_30 : decode cX3_readChild 30 = .ok (.iload_n 1, 1) := by decide +kernel
theorem dX3_readChild_31 : decode cX3_readChild 31 = .ok (.iconst (-1), 1) := by decide +kernel
theorem dX3_readChild_32 : decode cX3_readChild 32 = .ok (.if_icmp .ne 7, 3) := by decide +kernel
theorem dX3_readChild_35 : decode cX3_readChild 35 = .ok (.iconst (-1), 1) := by decide +kernel
theorem dX3_readChild_36 : decode cX3_readChild 36 = .ok (.goto 10, 3) := by decide +kernel
theorem dX3_readChild_39 : decode cX3_readChild 39 = .ok (.aload_n 0, 1) := by decide +kernel
theorem dX3_readChild_40 : decode cX3_readChild 40 = .ok (.iconst 0, 1) := by decide +kernel
theorem dX3_readChild_41 : decode cX3_readChild 41 = .ok (.bipush 99, 2) := by decide +kernel
theorem dX3_readChild_43 : decode cX3_readChild 43 = .ok (.invokevirtual 130, 3) := by decide +kernel
theorem dX3_readChild_46 : decode cX3_readChild 46 = .ok (.istore_n 2, 1) := by decide +kernel
theorem dX3_readChild_47 : decode cX3_readChild 47 = .ok (.iload_n 2, 1) := by decide +kernel
theorem dX3_readChild_48 : decode cX3_readChild 48 = .ok (.iconst (-1), 1) := by decide +kernel
theorem dX3_readChild_49 : decode cX3_readChild 49 = .ok (.if_icmp .ne 4, 3) := by decide +kernel
theorem dX3_readChild_52 : decode cX3_readChild 52 = .ok (.return_, 1) := by decide +kernel
theorem dX3_readChild_53 : decode cX3_readChild 53 = .ok (.aload_n 0, 1) := by decide +kernel
theorem dX3_readChild_54 : decode cX3_readChild 54 = .ok (.getstatic 170, 3) := by decide +kernel
theorem dX3_readChild_57 : decode cX3_readChild 57 = .ok (.invokevirtual 173, 3) := by decide +kernel
theorem dX3_readChild_60 : decode cX3_readChild 60 = .ok (.istore_n 3, 1) := by decide +kernel
theorem dX3_readChild_61 : decode cX3_readChild 61 = .ok (.aload_n 0, 1) := by decide +kernel
theorem dX3_readChild_62 : decode cX3_readChild 62 = .ok (.getstatic 177, 3) := by decide +kernel
theorem dX3_readChild_65 : decode cX3_readChild 65 = .ok (.invokevirtual 173, 3) := by decide +kernel
theorem dX3_readChild_68 : decode cX3_readChild 68 = .ok (.ifCond .eq 13, 3) := by decide +kernel
theorem dX3_readChild_71 : decode cX3_readChild 71 = .ok (.aload_n 0, 1) := by decide +kernel
theorem dX3_readChild_72 : decode cX3_readChild 72 = .ok (.iconst 1, 1) := by decide +kernel
theorem dX3_readChild_73 : decode cX3_readChild 73 = .ok (.bipush 99, 2) := by decide +kernel
theorem dX3_readChild_75 : decode cX3_readChild 75 = .ok (.invokevirtual 130, 3) := by decide +kernel
theorem dX3_readChild_78 : decode cX3_readChild 78 = .ok (.goto 4, 3) := by decide +kernel
theorem dX3_readChild_81 : decode cX3_readChild 81 = .ok (.iconst 0, 1) := by decide +kernel
theorem dX3_readChild_82 : decode cX3_readChild 82 = .ok (.istore 4, 2) := by decide +kernel
theorem dX3_readChild_84 : decode cX3_readChild 84 = .ok (.iload 4, 2) := by decide +kernel
theorem dX3_readChild_86 : decode cX3_readChild 86 = .ok (.iconst (-1), 1) := by decide +kernel
theorem dX3_readChild_87 : decode cX3_readChild 87 = .ok (.if_icmp .ne 4, 3) := by decide +kernel
theorem dX3_readChild_90 : decode cX3_readChild 90 = .ok (.return_, 1) := by decide +kernel
theorem dX3_readChild_91 : decode cX3_readChild 91 = .ok (.aload_n 0, 1) := by decide +kernel
theorem dX3_readChild_92 : decode cX3_readChild 92 = .ok (.getstatic 180, 3) := by decide +kernel
theorem dX3_readChild_95 : decode cX3_readChild 95 = .ok (.invokevirtual 173, 3) := by decide +kernel
theorem dX3_readChild_98 : decode cX3_readChild 98 = .ok (.ifCond .ne 9, 3) := by decide +kernel
theorem dX3_readChild_101 : decode cX3_readChild 101 = .ok (.aload_n 0, 1) := by decide +kernel
theorem dX3_readChild_102 : decode cX3_readChild 102 = .ok (.iconst 1, 1) := by decide +kernel
theorem dX3_readChild_103 : decode cX3_readChild 103 = .ok (.invokevirtual 115, 3) := by decide +kernel
theorem dX3_readChild_106 : decode cX3_readChild 106 = .ok (.return_, 1) := by decide +kernel
theorem dX3_readChild_107 : decode cX3_readChild 107 = .ok (.aload_n 0, 1) := by decide +kernel
theorem dX3_readChild_108 : decode cX3_readChild 108 = .ok (.invokevirtual 183, 3) := by decide +kernel
theorem dX3_readChild_111 : decode cX3_readChild 111 = .ok (.istore 5, 2) := by decide +kernel
theorem dX3_readChild_113 : decode cX3_readChild 113 = .ok (.iload 5, 2) := by decide +kernel
theorem dX3_readChild_115 : decode cX3_readChild 115 = .ok (.iconst (-1), 1) := by decide +kernel
theorem dX3_readChild_116 : decode cX3_readChild 116 = .ok (.if_icmp .eq 25, 3) := by decide +kernel
theorem dX3_readChild_119 : decode cX3_readChild 119 = .ok (.aload_n 0, 1) := by decide +kernel
theorem dX3_readChild_120 : decode cX3_readChild 120 = .ok (.invokevirtual 137, 3) := by decide +kernel
theorem dX3_readChild_123 : decode cX3_readChild 123 = .ok (.ifCond .eq 18, 3) := by decide +kernel
theorem dX3_readChild_126 : decode cX3_readChild 126 = .ok (.aload_n 0, 1) := by decide +kernel
theorem dX3_readChild_127 : decode cX3_readChild 127 = .ok (.getfield 33, 3) := by decide +kernel
theorem dX3_readChild_130 : decode cX3_readChild 130 = .ok (.iload_n 1, 1) := by decide +kernel
theorem dX3_readChild_131 : decode cX3_readChild 131 = .ok (.iload_n 2, 1) := by decide +kernel
theorem dX3_readChild_132 : decode cX3_readChild 132 = .ok (.iload 4, 2) := by decide +kernel
theorem dX3_readChild_134 : decode cX3_readChild 134 = .ok (.iload_n 3, 1) := by decide +kernel
theorem dX3_readChild_135 : decode cX3_readChild 135 = .ok (.iload 5, 2) := by decide +kernel
theorem dX3_readChild_137 : decode cX3_readChild 137 = .ok (.invokevirtual 186, 3) := by decide +kernel
theorem dX3_readChild_140 : decode cX3_readChild 140 = .ok (.pop, 1) := by decide +kernel
theorem dX3_readChild_141 : decode cX3_readChild 141 = .ok (.return_, 1) := by decide +kernel
theorem dX3_readSeed_0 : decode cX3_readSeed 0 = .ok (.aload_n 0, 1) := by decide +kernel
theorem dX3_readSeed_1 : decode cX3_readSeed 1 = .ok (.getfield 37, 3) := by decide +kernel
theorem dX3_readSeed_4 : decode cX3_readSeed 4 = .ok (.ifCond .ne 13, 3) := by decide +kernel
theorem dX3_readSeed_7 : decode cX3_readSeed 7 = .ok (.aload_n 0, 1) := by decide +kernel
theorem dX3_readSeed_8 : decode cX3_readSeed 8 = .ok (.getfield 33, 3) := by decide +kernel
theorem dX3_readSeed_11 : decode cX3_readSeed 11 = .ok (.getfield 167, 3) := by decide +kernel
theorem dX3_readSeed_14 : decode cX3_readSeed 14 = .ok (.ifCond .le 11, 3) := by decide +kernel
theorem dX3_readSeed_17 : decode cX3_readSeed 17 = .ok (.aload_n 0, 1) := by decide +kernel
theorem dX3_readSeed_18 : decode cX3_readSeed 18 = .ok (.iconst 4, 1) := by decide +kernel
theorem dX3_readSeed_19 : decode cX3_readSeed 19 = .ok (.invokevirtual 115, 3) := by decide +kernel
theorem dX3_readSeed_22 : decode cX3_readSeed 22 = .ok (.goto 22, 3) := by decide +kernel
theorem dX3_readSeed_25 : decode cX3_readSeed 25 = .ok (.aload_n 0, 1) := by decide +kernel
theorem dX3_readSeed_26 : decode cX3_readSeed 26 = .ok (.iconst 1, 1) := by decide +kernel
theorem dX3_readSeed_27 : decode cX3_readSeed 27 = .ok (.putfield 37, 3) := by decide +kernel
theorem dX3_readSeed_30 : decode cX3_readSeed 30 = .ok (.aload_n 0, 1) := by decide +kernel
theorem dX3_readSeed_31 : decode cX3_readSeed 31 = .ok (.getfield 33, 3) := by decide +kernel
theorem dX3_readSeed_34 : decode cX3_readSeed 34 = .ok (.aload_n 0, 1) := by decide +kernel
theorem dX3_readSeed_35 : decode cX3_readSeed 35 = .ok (.sipush 999, 3) := by decide +kernel
theorem dX3_readSeed_38 : decode cX3_readSeed 38 = .ok (.invokevirtual 190, 3) := by decide +kernel
theorem dX3_readSeed_41 : decode cX3_readSeed 41 = .ok (.putfield 193, 3) := by decide +kernel
theorem dX3_readSeed_44 : decode cX3_readSeed 44 = .ok (.return_, 1) := by decide +kernel
theorem dX3_readAppeals_0 : decode cX3_readAppeals 0 = .ok (.aload_n 0, 1) := by decide +kernel
theorem dX3_readAppeals_1 : decode cX3_readAppeals 1 = .ok (.getfield 41, 3) := by decide +kernel
theorem dX3_readAppeals_4 : decode cX3_readAppeals 4 = .ok (.ifCond .eq 11, 3) := by decide +kernel
theorem dX3_readAppeals_7 : decode cX3_readAppeals 7 = .ok (.aload_n 0, 1) := by decide +kernel
theorem dX3_readAppeals_8 : decode cX3_readAppeals 8 = .ok (.iconst 4, 1) := by decide +kernel
theorem dX3_readAppeals_9 : decode cX3_readAppeals 9 = .ok (.invokevirtual 115, 3) := by decide +kernel
theorem dX3_readAppeals_12 : decode cX3_readAppeals 12 = .ok (.goto 24, 3) := by decide +kernel
theorem dX3_readAppeals_15 : decode cX3_readAppeals 15 = .ok (.aload_n 0, 1) := by decide +kernel
theorem dX3_readAppeals_16 : decode cX3_readAppeals 16 = .ok (.iconst 1, 1) := by decide +kernel
theorem dX3_readAppeals_17 : decode cX3_readAppeals 17 = .ok (.putfield 41, 3) := by decide +kernel
theorem dX3_readAppeals_20 : decode cX3_readAppeals 20 = .ok (.aload_n 0, 1) := by decide +kernel
theorem dX3_readAppeals_21 : decode cX3_readAppeals 21 = .ok (.getfield 33, 3) := by decide +kernel
theorem dX3_readAppeals_24 : decode cX3_readAppeals 24 = .ok (.getfield 60, 3) := by decide +kernel
theorem dX3_readAppeals_27 : decode cX3_readAppeals 27 = .ok (.aload_n 0, 1) := by decide +kernel
theorem dX3_readAppeals_28 : decode cX3_readAppeals 28 = .ok (.bipush 9, 2) := by decide +kernel
theorem dX3_readAppeals_30 : decode cX3_readAppeals 30 = .ok (.invokevirtual 190, 3) := by decide +kernel
theorem dX3_readAppeals_33 : decode cX3_readAppeals 33 = .ok (.putfield 196, 3) := by decide +kernel
theorem dX3_readAppeals_36 : decode cX3_readAppeals 36 = .ok (.return_, 1) := by decide +kernel
theorem dX3_readLate_0 : decode cX3_readLate 0 = .ok (.aload_n 0, 1) := by decide +kernel
theorem dX3_readLate_1 : decode cX3_readLate 1 = .ok (.getfield 44, 3) := by decide +kernel
theorem dX3_readLate_4 : decode cX3_readLate 4 = .ok (.ifCond .eq 11, 3) := by decide +kernel
theorem dX3_readLate_7 : decode cX3_readLate 7 = .ok (.aload_n 0, 1) := by decide +kernel
theorem dX3_readLate_8 : decode cX3_readLate 8 = .ok (.iconst 4, 1) := by decide +kernel
theorem dX3_readLate_9 : decode cX3_readLate 9 = .ok (.invokevirtual 115, 3) := by decide +kernel
theorem dX3_readLate_12 : decode cX3_readLate 12 = .ok (.goto 29, 3) := by decide +kernel
theorem dX3_readLate_15 : decode cX3_readLate 15 = .ok (.aload_n 0, 1) := by decide +kernel
theorem dX3_readLate_16 : decode cX3_readLate 16 = .ok (.iconst 1, 1) := by decide +kernel
theorem dX3_readLate_17 : decode cX3_readLate 17 = .ok (.putfield 44, 3) := by decide +kernel
theorem dX3_readLate_20 : decode cX3_readLate 20 = .ok (.aload_n 0, 1) := by decide +kernel
theorem dX3_readLate_21 : decode cX3_readLate 21 = .ok (.getfield 33, 3) := by decide +kernel
theorem dX3_readLate_24 : decode cX3_readLate 24 = .ok (.aload_n 0, 1) := by decide +kernel
theorem dX3_readLate_25 : decode cX3_readLate 25 = .ok (.iconst 1, 1) := by decide +kernel
theorem dX3_readLate_26 : decode cX3_readLate 26 = .ok (.invokevirtual 190, 3) := by decide +kernel
theorem dX3_readLate_29 : decode cX3_readLate 29 = .ok (.iconst 1, 1) := by decide +kernel
theorem dX3_readLate_30 : decode cX3_readLate 30 = .ok (.if_icmp .ne 7, 3) := by decide +kernel
theorem dX3_readLate_33 : decode cX3_readLate 33 = .ok (.iconst 1, 1) := by decide +kernel
theorem dX3_readLate_34 : decode cX3_readLate 34 = .ok (.goto 4, 3) := by decide +kernel
theorem dX3_readLate_37 : decode cX3_readLate 37 = .ok (.iconst 0, 1) := by decide +kernel
theorem dX3_readLate_38 : decode cX3_readLate 38 = .ok (.putfield 199, 3) := by decide +kernel
theorem dX3_readLate_41 : decode cX3_readLate 41 = .ok (.return_, 1) := by decide +kernel
theorem dX3_readSetting_0 : decode cX3_readSetting 0 = .ok (.aload_n 0, 1) := by decide +kernel
theorem dX3_readSetting_1 : decode cX3_readSetting 1 = .ok (.invokevirtual 68, 3) := by decide +kernel
theorem dX3_readSetting_4 : decode cX3_readSetting 4 = .ok (.aload_n 0, 1) := by decide +kernel
theorem dX3_readSetting_5 : decode cX3_readSetting 5 = .ok (.iconst 0, 1) := by decide +kernel
theorem dX3_readSetting_6 : decode cX3_readSetting 6 = .ok (.iload_n 1, 1) := by decide +kernel
theorem dX3_readSetting_7 : decode cX3_readSetting 7 = .ok (.invokevirtual 130, 3) := by decide +kernel
theorem dX3_readSetting_10 : decode cX3_readSetting 10 = .ok (.istore_n 2, 1) := by decide +kernel
theorem dX3_readSetting_11 : decode cX3_readSetting 11 = .ok (.iload_n 2, 1) := by decide +kernel
theorem dX3_readSetting_12 : decode cX3_readSetting 12 = .ok (.iconst (-1), 1) := by decide +kernel
theorem dX3_readSetting_13 : decode cX3_readSetting 13 = .ok (.if_icmp .eq 14, 3) := by decide +kernel
theorem dX3_readSetting_16 : decode cX3_readSetting 16 = .ok (.aload_n 0, 1) := by decide +kernel
theorem dX3_readSetting_17 : decode cX3_readSetting 17 = .ok (.invokevirtual 137, 3) := by decide +kernel
theorem dX3_readSetting_20 : decode cX3_readSetting 20 = .ok (.ifCond .eq 7, 3) := by decide +kernel
theorem dX3_readSetting_23 : decode cX3_readSetting 23 = .ok (.iload_n 2, 1) := by decide +kernel
theorem dX3_readSetting_24 : decode cX3_readSetting 24 = .ok (.goto 4, 3) := by decide +kernel
theorem dX3_readSetting_27 : decode cX3_readSetting 27 = .ok (.iconst (-1), 1) := by decide +kernel
theorem dX3_readSetting_28 : decode cX3_readSetting 28 = .ok (.ireturn, 1) := by decide +kernel
theorem dX3_readNumber_0 : decode cX3_readNumber 0 = .ok (.aload_n 0, 1) := by decide +kernel
theorem dX3_readNumber_1 : decode cX3_readNumber 1 = .ok (.getfield 47, 3) := by decide +kernel
theorem dX3_readNumber_4 : decode cX3_readNumber 4 = .ok (.iconst 2, 1) := by decide +kernel
theorem dX3_readNumber_5 : decode cX3_readNumber 5 = .ok (.if_icmp .ne 16, 3) := by decide +kernel
theorem dX3_readNumber_8 : decode cX3_readNumber 8 = .ok (.aload_n 0, 1) := by decide +kernel
theorem dX3_readNumber_9 : decode cX3_readNumber 9 = .ok (.getfield 53, 3) := by decide +kernel
theorem dX3_readNumber_12 : decode cX3_readNumber 12 = .ok (.aload_n 0, 1) := by decide +kernel
theorem dX3_readNumber_13 : decode cX3_readNumber 13 = .ok (.getfield 50, 3) := by decide +kernel
theorem dX3_readNumber_16 : decode cX3_readNumber 16 = .ok (.isub, 1) := by decide +kernel
theorem dX3_readNumber_17 : decode cX3_readNumber 17 = .ok (.iconst 3, 1) := by decide +kernel
theorem dX3_readNumber_18 : decode cX3_readNumber 18 = .ok (.if_icmp .le 10, 3) := by decide +kernel
theorem dX3_readNumber_21 : decode cX3_readNumber 21 = .ok (.aload_n 0, 1) := by decide +kernel
theorem dX3_readNumber_22 : decode cX3_readNumber 22 = .ok (.iconst 1, 1) := by decide +kernel
theorem dX3_readNumber_23 : decode cX3_readNumber 23 = .ok (.invokevirtual 115, 3) := by decide +kernel
theorem dX3_readNumber_26 : decode cX3_readNumber 26 = .ok (.iconst (-1), 1) := by decide +kernel
theorem dX3_readNumber_27 : decode cX3_readNumber 27 = .ok (.ireturn, 1) := by decide +kernel
theorem dX3_readNumber_28 : decode cX3_readNumber 28 = .ok (.iconst 0, 1) := by decide +kernel
theorem dX3_readNumber_29 : decode cX3_readNumber 29 = .ok (.istore_n 3, 1) := by decide +kernel
theorem dX3_readNumber_30 : decode cX3_readNumber 30 = .ok (.aload_n 0, 1) := by decide +kernel
theorem dX3_readNumber_31 : decode cX3_readNumber 31 = .ok (.getfield 50, 3) := by decide +kernel
theorem dX3_readNumber_34 : decode cX3_readNumber 34 = .ok (.istore 4, 2) := by decide +kernel
theorem dX3_readNumber_36 : decode cX3_readNumber 36 = .ok (.iload 4, 2) := by decide +kernel
theorem dX3_readNumber_38 : decode cX3_readNumber 38 = .ok (.aload_n 0, 1) := by decide +kernel
theorem dX3_readNumber_39 : decode cX3_readNumber 39 = .ok (.getfield 53, 3) := by decide +kernel
theorem dX3_readNumber_42 : decode cX3_readNumber 42 = .ok (.if_icmp .ge 25, 3) := by decide +kernel
theorem dX3_readNumber_45 : decode cX3_readNumber 45 = .ok (.iload_n 3, 1) := by decide +kernel
theorem dX3_readNumber_46 : decode cX3_readNumber 46 = .ok (.bipush 10, 2) := by decide +kernel
theorem dX3_readNumber_48 : decode cX3_readNumber 48 = .ok (.imul, 1) := by decide +kernel
theorem dX3_readNumber_49 : decode cX3_readNumber 49 = .ok (.aload_n 0, 1) := by decide +kernel
theorem dX3_readNumber_50 : decode cX3_readNumber 50 = .ok (.getfield 9, 3) := by decide +kernel
theorem dX3_readNumber_53 : decode cX3_readNumber 53 = .ok (.iload 4, 2) := by decide +kernel
theorem dX3_readNumber_55 : decode cX3_readNumber 55 = .ok (.baload, 1) := by decide +kernel
theorem dX3_readNumber_56 : decode cX3_readNumber 56 = .ok (.iadd, 1) := by decide +kernel
theorem dX3_readNumber_57 : decode cX3_readNumber 57 = .ok (.bipush 48, 2) := by decide +kernel
theorem dX3_readNumber_59 : decode cX3_readNumber 59 = .ok (.isub, 1) := by decide +kernel
theorem dX3_readNumber_60 : decode cX3_readNumber 60 = .ok (.istore_n 3, 1) := by decide +kernel
theorem dX3_readNumber_61 : decode cX3_readNumber 61 = .ok (.iinc 4 1, 3) := by decide +kernel
theorem dX3_readNumber_64 : decode cX3_readNumber 64 = .ok (.goto (-28), 3) := by decide +kernel
theorem dX3_readNumber_67 : decode cX3_readNumber 67 = .ok (.iload_n 3, 1) := by decide +kernel
theorem dX3_readNumber_68 : decode cX3_readNumber 68 = .ok (.iload_n 1, 1) := by decide +kernel
theorem dX3_readNumber_69 : decode cX3_readNumber 69 = .ok (.if_icmp .lt 8, 3) := by decide +kernel
theorem dX3_readNumber_72 : decode cX3_readNumber 72 = .ok (.iload_n 3, 1) := by decide +kernel
theorem dX3_readNumber_73 : decode cX3_readNumber 73 = .ok (.iload_n 2, 1) := by decide +kernel
theorem dX3_readNumber_74 : decode cX3_readNumber 74 = .ok (.if_icmp .le 10, 3) := by decide +kernel
theorem dX3_readNumber_77 : decode cX3_readNumber 77 = .ok (.aload_n 0, 1) := by decide +kernel
theorem dX3_readNumber_78 : decode cX3_readNumber 78 = .ok (.iconst 2, 1) := by decide +kernel
theorem dX3_readNumber_79 : decode cX3_readNumber 79 = .ok (.invokevirtual 115, 3) := by decide +kernel
theorem dX3_readNumber_82 : decode cX3_readNumber 82 = .ok (.iconst (-1), 1) := by decide +kernel
theorem dX3_readNumber_83 : decode cX3_readNumber 83 = .ok (.ireturn, 1) := by decide +kernel
theorem dX3_readNumber_84 : decode cX3_readNumber 84 = .ok (.aload_n 0, 1) := by decide +kernel
theorem dX3_readNumber_85 : decode cX3_readNumber 85 = .ok (.invokevirtual 68, 3) := by decide +kernel
theorem dX3_readNumber_88 : decode cX3_readNumber 88 = .ok (.iload_n 3, 1) := by decide +kernel
theorem dX3_readNumber_89 : decode cX3_readNumber 89 = .ok (.ireturn, 1) := by decide +kernel
theorem dX3_readRules_0 : decode cX3_readRules 0 = .ok (.iconst 0, 1) := by decide +kernel
theorem dX3_readRules_1 : decode cX3_readRules 1 = .ok (.istore_n 1, 1) := by decide +kernel
theorem dX3_readRules_2 : decode cX3_readRules 2 = .ok (.iconst 0, 1) := by decide +kernel
theorem dX3_readRules_3 : decode cX3_readRules 3 = .ok (.istore_n 2, 1) := by decide +kernel
theorem dX3_readRules_4 : decode cX3_readRules 4 = .ok (.iload_n 2, 1) := by decide +kernel
theorem dX3_readRules_5 : decode cX3_readRules 5 = .ok (.iconst 3, 1) := by decide +kernel
theorem dX3_readRules_6 : decode cX3_readRules 6 = .ok (.if_icmp .ge 44, 3) := by decide +kernel
theorem dX3_readRules_9 : decode cX3_readRules 9 = .ok (.aload_n 0, 1) := by decide +kernel
theorem dX3_readRules_10 : decode cX3_readRules 10 = .ok (.invokevirtual 202, 3) := by decide +kernel
theorem dX3_readRules_13 : decode cX3_readRules 13 = .ok (.istore_n 3, 1) := by decide +kernel
theorem dX3_readRules_14 : decode cX3_readRules 14 = .ok (.iload_n 3, 1) := by decide +kernel
theorem dX3_readRules_15 : decode cX3_readRules 15 = .ok (.iconst (-1), 1) := by decide +kernel
theorem dX3_readRules_16 : decode cX3_readRules 16 = .ok (.if_icmp .eq 12, 3) := by decide +kernel
theorem dX3_readRules_19 : decode cX3_readRules 19 = .ok (.iload_n 1, 1) := by decide +kernel
theorem dX3_readRules_20 : decode cX3_readRules 20 = .ok (.iload_n 3, 1) := by decide +kernel
theorem dX3_readRules_21 : decode cX3_readRules 21 = .ok (.invokestatic 205, 3) := by decide +kernel
theorem dX3_readRules_24 : decode cX3_readRules 24 = .ok (.iconst (-1), 1) := by decide +kernel
theorem dX3_readRules_25 : decode cX3_readRules 25 = .ok (.if_icmp .eq 5, 3) := by decide +kernel
theorem dX3_readRules_28 : decode cX3_readRules 28 = .ok (.iload_n 1, 1) := by decide +kernel
theorem dX3_readRules_29 : decode cX3_readRules 29 = .ok (.ireturn, 1) := by decide +kernel
theorem dX3_readRules_30 : decode cX3_readRules 30 = .ok (.iload_n 1, 1) := by decide +kernel
theorem dX3_readRules_31 : decode cX3_readRules 31 = .ok (.iload_n 3, 1) := by decide +kernel
theorem dX3_readRules_32 : decode cX3_readRules 32 = .ok (.iconst 1, 1) := by decide +kernel
theorem dX3_readRules_33 : decode cX3_readRules 33 = .ok (.iadd, 1) := by decide +kernel
theorem dX3_readRules_34 : decode cX3_readRules 34 = .ok (.iconst 4, 1) := by decide +kernel
theorem dX3_readRules_35 : decode cX3_readRules 35 = .ok (.iload_n 2, 1) := by decide +kernel
theorem dX3_readRules_36 : decode cX3_readRules 36 = .ok (.imul, 1) := by decide +kernel
theorem dX3_readRules_37 : decode cX3_readRules 37 = .ok (.ishl, 1) := by decide +kernel
theorem dX3_readRules_38 : decode cX3_readRules 38 = .ok (.ior, 1) := by decide +kernel
theorem dX3_readRules_39 : decode cX3_readRules 39 = .ok (.istore_n 1, 1) := by decide +kernel
theorem dX3_readRules_40 : decode cX3_readRules 40 = .ok (.aload_n 0, 1) := by decide +kernel
theorem dX3_readRules_41 : decode cX3_readRules 41 = .ok (.invokevirtual 68, 3) := by decide +kernel
theorem dX3_readRules_44 : decode cX3_readRules 44 = .ok (.iinc 2 1, 3) := by decide +kernel
theorem dX3_readRules_47 : decode cX3_readRules 47 = .ok (.goto (-43), 3) := by decide +kernel
theorem dX3_readRules_50 : decode cX3_readRules 50 = .ok (.iload_n 1, 1) := by decide +kernel
theorem dX3_readRules_51 : decode cX3_readRules 51 = .ok (.ireturn, 1) := by decide +kernel
theorem dX3_ruleHere_0 : decode cX3_ruleHere 0 = .ok (.aload_n 0, 1) := by decide +kernel
theorem dX3_ruleHere_1 : decode cX3_ruleHere 1 = .ok (.getfield 56, 3) := by decide +kernel
theorem dX3_ruleHere_4 : decode cX3_ruleHere 4 = .ok (.getstatic 170, 3) := by decide +kernel
theorem dX3_ruleHere_7 : decode cX3_ruleHere 7 = .ok (.if_acmp .ne 5, 3) := by decide +kernel
theorem dX3_ruleHere_10 : decode cX3_ruleHere 10 = .ok (.iconst 0, 1) := by decide +kernel
theorem dX3_ruleHere_11 : decode cX3_ruleHere 11 = .ok (.ireturn, 1) := by decide +kernel
theorem dX3_ruleHere_12 : decode cX3_ruleHere 12 = .ok (.aload_n 0, 1) := by decide +kernel
theorem dX3_ruleHere_13 : decode cX3_ruleHere 13 = .ok (.getfield 56, 3) := by decide +kernel
theorem dX3_ruleHere_16 : decode cX3_ruleHere 16 = .ok (.getstatic 208, 3) := by decide +kernel
theorem dX3_ruleHere_19 : decode cX3_ruleHere 19 = .ok (.if_acmp .ne 5, 3) := by decide +kernel
theorem dX3_ruleHere_22 : decode cX3_ruleHere 22 = .ok (.iconst 1, 1) := by decide +kernel
theorem dX3_ruleHere_23 : decode cX3_ruleHere 23 = .ok (.ireturn, 1) := by decide +kernel
theorem dX3_ruleHere_24 : decode cX3_ruleHere 24 = .ok (.aload_n 0, 1) := by decide +kernel
theorem dX3_ruleHere_25 : decode cX3_ruleHere 25 = .ok (.getfield 56, 3) := by decide +kernel
theorem dX3_ruleHere_28 : decode cX3_ruleHere 28 = .ok (.getstatic 79, 3) := by decide +kernel
theorem dX3_ruleHere_31 : decode cX3_ruleHere 31 = .ok (.if_acmp .ne 7, 3) := by decide +kernel
theorem dX3_ruleHere_34 : decode cX3_ruleHere 34 = .ok (.iconst 2, 1) := by decide +kernel
theorem dX3_ruleHere_35 : decode cX3_ruleHere 35 = .ok (.goto 4, 3) := by decide +kernel
theorem dX3_ruleHere_38 : decode cX3_ruleHere 38 = .ok (.iconst (-1), 1) := by decide +kernel
theorem dX3_ruleHere_39 : decode cX3_ruleHere 39 = .ok (.ireturn, 1) := by decide +kernel
theorem dX3_readWishes_0 : decode cX3_readWishes 0 = .ok (.iconst 0, 1) := by decide +kernel
theorem dX3_readWishes_1 : decode cX3_readWishes 1 = .ok (.istore_n 1, 1) := by decide +kernel
theorem dX3_readWishes_2 : decode cX3_readWishes 2 = .ok (.iconst 0, 1) := by decide +kernel
theorem dX3_readWishes_3 : decode cX3_readWishes 3 = .ok (.istore_n 2, 1) := by decide +kernel
theorem dX3_readWishes_4 : decode cX3_readWishes 4 = .ok (.iload_n 2, 1) := by decide +kernel
theorem dX3_readWishes_5 : decode cX3_readWishes 5 = .ok (.iconst 4, 1) := by decide +kernel
theorem dX3_readWishes_6 : decode cX3_readWishes 6 = .ok (.if_icmp .ge 63, 3) := by decide +kernel
theorem dX3_readWishes_9 : decode cX3_readWishes 9 = .ok (.iload_n 2, 1) := by decide +kernel
theorem dX3_readWishes_10 : decode cX3_readWishes 10 = .ok (.ifCond .eq 11, 3) := by decide +kernel
theorem dX3_readWishes_13 : decode cX3_readWishes 13 = .ok (.aload_n 0, 1) := by decide +kernel
theorem dX3_readWishes_14 : decode cX3_readWishes 14 = .ok (.getfield 47, 3) := by decide +kernel
theorem dX3_readWishes_17 : decode cX3_readWishes 17 = .ok (.iconst 1, 1) := by decide +kernel
theorem dX3_readWishes_18 : decode cX3_readWishes 18 = .ok (.if_icmp .ne 51, 3) := by decide +kernel
theorem dX3_readWishes_21 : decode cX3_readWishes 21 = .ok (.aload_n 0, 1) := by decide +kernel
theorem dX3_readWishes_22 : decode cX3_readWishes 22 = .ok (.invokevirtual 149, 3) := by decide +kernel
theorem dX3_readWishes_25 : decode cX3_readWishes 25 = .ok (.istore_n 3, 1) := by decide +kernel
theorem dX3_readWishes_26 : decode cX3_readWishes 26 = .ok (.iload_n 3, 1) := by decide +kernel
theorem dX3_readWishes_27 : decode cX3_readWishes 27 = .ok (.iconst (-1), 1) := by decide +kernel
theorem dX3_readWishes_28 : decode cX3_readWishes 28 = .ok (.if_icmp .ne 5, 3) := by decide +kernel
theorem dX3_readWishes_31 : decode cX3_readWishes 31 = .ok (.iconst (-1), 1) := by decide +kernel
theorem dX3_readWishes_32 : decode cX3_readWishes 32 = .ok (.ireturn, 1) := by decide +kernel
theorem dX3_readWishes_33 : decode cX3_readWishes 33 = .ok (.iload_n 1, 1) := by decide +kernel
theorem dX3_readWishes_34 : decode cX3_readWishes 34 = .ok (.iload_n 3, 1) := by decide +kernel
theorem dX3_readWishes_35 : decode cX3_readWishes 35 = .ok (.invokestatic 205, 3) := by decide +kernel
theorem dX3_readWishes_38 : decode cX3_readWishes 38 = .ok (.iconst (-1), 1) := by decide +kernel
theorem dX3_readWishes_39 : decode cX3_readWishes 39 = .ok (.if_icmp .eq 10, 3) := by decide +kernel
theorem dX3_readWishes_42 : decode cX3_readWishes 42 = .ok (.aload_n 0, 1) := by decide +kernel
theorem dX3_readWishes_43 : decode cX3_readWishes 43 = .ok (.iconst 3, 1) := by decide +kernel
theorem dX3_readWishes_44 : decode cX3_readWishes 44 = .ok (.invokevirtual 115, 3) := by decide +kernel
theorem dX3_readWishes_47 : decode cX3_readWishes 47 = .ok (.iconst (-1), 1) := by decide +kernel
theorem dX3_readWishes_48 : decode cX3_readWishes 48 = .ok (.ireturn, 1) := by decide +kernel
theorem dX3_readWishes_49 : decode cX3_readWishes 49 = .ok (.iload_n 1, 1) := by decide +kernel
theorem dX3_readWishes_50 : decode cX3_readWishes 50 = .ok (.iload_n 3, 1) := by decide +kernel
theorem dX3_readWishes_51 : decode cX3_readWishes 51 = .ok (.iconst 1, 1) := by decide +kernel
theorem dX3_readWishes_52 : decode cX3_readWishes 52 = .ok (.iadd, 1) := by decide +kernel
theorem dX3_readWishes_53 : decode cX3_readWishes 53 = .ok (.iconst 4, 1) := by decide +kernel
theorem dX3_readWishes_54 : decode cX3_readWishes 54 = .ok (.iload_n 2, 1) := by decide +kernel
theorem dX3_readWishes_55 : decode cX3_readWishes 55 = .ok (.imul, 1) := by decide +kernel
theorem dX3_readWishes_56 : decode cX3_readWishes 56 = .ok (.ishl, 1) := by decide +kernel
theorem dX3_readWishes_57 : decode cX3_readWishes 57 = .ok (.ior, 1) := by decide +kernel
theorem dX3_readWishes_58 : decode cX3_readWishes 58 = .ok (.istore_n 1, 1) := by decide +kernel
theorem dX3_readWishes_59 : decode cX3_readWishes 59 = .ok (.aload_n 0, 1) := by decide +kernel
theorem dX3_readWishes_60 : decode cX3_readWishes 60 = .ok (.invokevirtual 68, 3) := by decide +kernel
theorem dX3_readWishes_63 : decode cX3_readWishes 63 = .ok (.iinc 2 1, 3) := by decide +kernel
theorem dX3_readWishes_66 : decode cX3_readWishes 66 = .ok (.goto (-62), 3) := by decide +kernel
theorem dX3_readWishes_69 : decode cX3_readWishes 69 = .ok (.iload_n 1, 1) := by decide +kernel
theorem dX3_readWishes_70 : decode cX3_readWishes 70 = .ok (.ireturn, 1) := by decide +kernel
theorem dX3_toldSchoolHere_0 : decode cX3_toldSchoolHere 0 = .ok (.aload_n 0, 1) := by decide +kernel
theorem dX3_toldSchoolHere_1 : decode cX3_toldSchoolHere 1 = .ok (.invokevirtual 122, 3) := by decide +kernel
theorem dX3_toldSchoolHere_4 : decode cX3_toldSchoolHere 4 = .ok (.istore_n 1, 1) := by decide +kernel
theorem dX3_toldSchoolHere_5 : decode cX3_toldSchoolHere 5 = .ok (.iload_n 1, 1) := by decide +kernel
theorem dX3_toldSchoolHere_6 : decode cX3_toldSchoolHere 6 = .ok (.iconst (-1), 1) := by decide +kernel
theorem dX3_toldSchoolHere_7 : decode cX3_toldSchoolHere 7 = .ok (.if_icmp .ne 5, 3) := by decide +kernel
theorem dX3_toldSchoolHere_10 : decode cX3_toldSchoolHere 10 = .ok (.iconst (-1), 1) := by decide +kernel
theorem dX3_toldSchoolHere_11 : decode cX3_toldSchoolHere 11 = .ok (.ireturn, 1) := by decide +kernel
theorem dX3_toldSchoolHere_12 : decode cX3_toldSchoolHere 12 = .ok (.aload_n 0, 1) := by decide +kernel
theorem dX3_toldSchoolHere_13 : decode cX3_toldSchoolHere 13 = .ok (.getfield 33, 3) := by decide +kernel
theorem dX3_toldSchoolHere_16 : decode cX3_toldSchoolHere 16 = .ok (.getfield 60, 3) := by decide +kernel
theorem dX3_toldSchoolHere_19 : decode cX3_toldSchoolHere 19 = .ok (.iload_n 1, 1) := by decide +kernel
theorem dX3_toldSchoolHere_20 : decode cX3_toldSchoolHere 20 = .ok (.invokevirtual 126, 3) := by decide +kernel
theorem dX3_toldSchoolHere_23 : decode cX3_toldSchoolHere 23 = .ok (.istore_n 2, 1) := by decide +kernel
theorem dX3_toldSchoolHere_24 : decode cX3_toldSchoolHere 24 = .ok (.iload_n 2, 1) := by decide +kernel
theorem dX3_toldSchoolHere_25 : decode cX3_toldSchoolHere 25 = .ok (.iconst (-1), 1) := by decide +kernel
theorem dX3_toldSchoolHere_26 : decode cX3_toldSchoolHere 26 = .ok (.if_icmp .ne 8, 3) := by decide +kernel
theorem dX3_toldSchoolHere_29 : decode cX3_toldSchoolHere 29 = .ok (.aload_n 0, 1) := by decide +kernel
theorem dX3_toldSchoolHere_30 : decode cX3_toldSchoolHere 30 = .ok (.iconst 3, 1) := by decide +kernel
theorem dX3_toldSchoolHere_31 : decode cX3_toldSchoolHere 31 = .ok (.invokevirtual 115, 3) := by decide +kernel
theorem dX3_toldSchoolHere_34 : decode cX3_toldSchoolHere 34 = .ok (.iload_n 2, 1) := by decide +kernel
theorem dX3_toldSchoolHere_35 : decode cX3_toldSchoolHere 35 = .ok (.ireturn, 1) := by decide +kernel
theorem dX3_nameHere_0 : decode cX3_nameHere 0 = .ok (.aload_n 0, 1) := by decide +kernel
theorem dX3_nameHere_1 : decode cX3_nameHere 1 = .ok (.getfield 47, 3) := by decide +kernel
theorem dX3_nameHere_4 : decode cX3_nameHere 4 = .ok (.iconst 1, 1) := by decide +kernel
theorem dX3_nameHere_5 : decode cX3_nameHere 5 = .ok (.if_icmp .ne 24, 3) := by decide +kernel
theorem dX3_nameHere_8 : decode cX3_nameHere 8 = .ok (.aload_n 0, 1) := by decide +kernel
theorem dX3_nameHere_9 : decode cX3_nameHere 9 = .ok (.getfield 56, 3) := by decide +kernel
theorem dX3_nameHere_12 : decode cX3_nameHere 12 = .ok (.ifnonnull 17, 3) := by decide +kernel
theorem dX3_nameHere_15 : decode cX3_nameHere 15 = .ok (.aload_n 0, 1) := by decide +kernel
theorem dX3_nameHere_16 : decode cX3_nameHere 16 = .ok (.getfield 53, 3) := by decide +kernel
theorem dX3_nameHere_19 : decode cX3_nameHere 19 = .ok (.aload_n 0, 1) := by decide +kernel
theorem dX3_nameHere_20 : decode cX3_nameHere 20 = .ok (.getfield 50, 3) := by decide +kernel
theorem dX3_nameHere_23 : decode cX3_nameHere 23 = .ok (.isub, 1) := by decide +kernel
theorem dX3_nameHere_24 : decode cX3_nameHere 24 = .ok (.bipush 6, 2) := by decide +kernel
theorem dX3_nameHere_26 : decode cX3_nameHere 26 = .ok (.if_icmp .le 10, 3) := by decide +kernel
theorem dX3_nameHere_29 : decode cX3_nameHere 29 = .ok (.aload_n 0, 1) := by decide +kernel
theorem dX3_nameHere_30 : decode cX3_nameHere 30 = .ok (.iconst 1, 1) := by decide +kernel
theorem dX3_nameHere_31 : decode cX3_nameHere 31 = .ok (.invokevirtual 115, 3) := by decide +kernel
theorem dX3_nameHere_34 : decode cX3_nameHere 34 = .ok (.iconst (-1), 1) := by decide +kernel
theorem dX3_nameHere_35 : decode cX3_nameHere 35 = .ok (.ireturn, 1) := by decide +kernel
theorem dX3_nameHere_36 : decode cX3_nameHere 36 = .ok (.iconst 0, 1) := by decide +kernel
theorem dX3_nameHere_37 : decode cX3_nameHere 37 = .ok (.istore_n 1, 1) := by decide +kernel
theorem dX3_nameHere_38 : decode cX3_nameHere 38 = .ok (.aload_n 0, 1) := by decide +kernel
theorem dX3_nameHere_39 : decode cX3_nameHere 39 = .ok (.getfield 50, 3) := by decide +kernel
theorem dX3_nameHere_42 : decode cX3_nameHere 42 = .ok (.istore_n 2, 1) := by decide +kernel
theorem dX3_nameHere_43 : decode cX3_nameHere 43 = .ok (.iload_n 2, 1) := by decide +kernel
theorem dX3_nameHere_44 : decode cX3_nameHere 44 = .ok (.aload_n 0, 1) := by decide +kernel
theorem dX3_nameHere_45 : decode cX3_nameHere 45 = .ok (.getfield 53, 3) := by decide +kernel
theorem dX3_nameHere_48 : decode cX3_nameHere 48 = .ok (.if_icmp .ge 25, 3) := by decide +kernel
theorem dX3_nameHere_51 : decode cX3_nameHere 51 = .ok (.iload_n 1, 1) := by decide +kernel
theorem dX3_nameHere_52 : decode cX3_nameHere 52 = .ok (.iconst 5, 1) := by decide +kernel
theorem dX3_nameHere_53 : decode cX3_nameHere 53 = .ok (.ishl, 1) := by decide +kernel
theorem dX3_nameHere_54 : decode cX3_nameHere 54 = .ok (.aload_n 0, 1) := by decide +kernel
theorem dX3_nameHere_55 : decode cX3_nameHere 55 = .ok (.getfield 9, 3) := by decide +kernel
theorem dX3_nameHere_58 : decode cX3_nameHere 58 = .ok (.iload_n 2, 1) := by decide +kernel
theorem dX3_nameHere_59 : decode cX3_nameHere 59 = .ok (.baload, 1) := by decide +kernel
theorem dX3_nameHere_60 : decode cX3_nameHere 60 = .ok (.bipush 97, 2) := by decide +kernel
theorem dX3_nameHere_62 : decode cX3_nameHere 62 = .ok (.isub, 1) := by decide +kernel
theorem dX3_nameHere_63 : decode cX3_nameHere 63 = .ok (.iconst 1, 1) := by decide +kernel
theorem dX3_nameHere_64 : decode cX3_nameHere 64 = .ok (.iadd, 1) := by decide +kernel
theorem dX3_nameHere_65 : decode cX3_nameHere 65 = .ok (.ior, 1) := by decide +kernel
theorem dX3_nameHere_66 : decode cX3_nameHere 66 = .ok (.istore_n 1, 1) := by decide +kernel
theorem dX3_nameHere_67 : decode cX3_nameHere 67 = .ok (.iinc 2 1, 3) := by decide +kernel
theorem dX3_nameHere_70 : decode cX3_nameHere 70 = .ok (.goto (-27), 3) := by decide +kernel
theorem dX3_nameHere_73 : decode cX3_nameHere 73 = .ok (.iload_n 1, 1) := by decide +kernel
theorem dX3_nameHere_74 : decode cX3_nameHere 74 = .ok (.ireturn, 1) := by decide +kernel
theorem dX3_passWord_0 : decode cX3_passWord 0 = .ok (.aload_n 0, 1) := by decide +kernel
theorem dX3_passWord_1 : decode cX3_passWord 1 = .ok (.getfield 56, 3) := by decide +kernel
theorem dX3_passWord_4 : decode cX3_passWord 4 = .ok (.aload_n 1, 1) := by decide +kernel
theorem dX3_passWord_5 : decode cX3_passWord 5 = .ok (.if_acmp .eq 5, 3) := by decide +kernel
theorem dX3_passWord_8 : decode cX3_passWord 8 = .ok (.iconst 0, 1) := by decide +kernel
theorem dX3_passWord_9 : decode cX3_passWord 9 = .ok (.ireturn, 1) := by decide +kernel
theorem dX3_passWord_10 : decode cX3_passWord 10 = .ok (.aload_n 0, 1) := by decide +kernel
theorem dX3_passWord_11 : decode cX3_passWord 11 = .ok (.invokevirtual 68, 3) := by decide +kernel
theorem dX3_passWord_14 : decode cX3_passWord 14 = .ok (.iconst 1, 1) := by decide +kernel
theorem dX3_passWord_15 : decode cX3_passWord 15 = .ok (.ireturn, 1) := by decide +kernel
theorem dX3_passSemicolon_0 : decode cX3_passSemicolon 0 = .ok (.aload_n 0, 1) := by decide +kernel
theorem dX3_passSemicolon_1 : decode cX3_passSemicolon 1 = .ok (.getfield 47, 3) := by decide +kernel
theorem dX3_passSemicolon_4 : decode cX3_passSemicolon 4 = .ok (.iconst 3, 1) := by decide +kernel
theorem dX3_passSemicolon_5 : decode cX3_passSemicolon 5 = .ok (.if_icmp .eq 10, 3) := by decide +kernel
theorem dX3_passSemicolon_8 : decode cX3_passSemicolon 8 = .ok (.aload_n 0, 1) := by decide +kernel
theorem dX3_passSemicolon_9 : decode cX3_passSemicolon 9 = .ok (.iconst 1, 1) := by decide +kernel
theorem dX3_passSemicolon_10 : decode cX3_passSemicolon 10 = .ok (.invokevirtual 115, 3) := by decide +kernel
theorem dX3_passSemicolon_13 : decode cX3_passSemicolon 13 = .ok (.iconst 0, 1) := by decide +kernel
theorem dX3_passSemicolon_14 : decode cX3_passSemicolon 14 = .ok (.ireturn, 1) := by decide +kernel
theorem dX3_passSemicolon_15 : decode cX3_passSemicolon 15 = .ok (.aload_n 0, 1) := by decide +kernel
theorem dX3_passSemicolon_16 : decode cX3_passSemicolon 16 = .ok (.invokevirtual 68, 3) := by decide +kernel
theorem dX3_passSemicolon_19 : decode cX3_passSemicolon 19 = .ok (.iconst 1, 1) := by decide +kernel
theorem dX3_passSemicolon_20 : decode cX3_passSemicolon 20 = .ok (.ireturn, 1) := by decide +kernel
theorem dX3_fail_0 : decode cX3_fail 0 = .ok (.aload_n 0, 1) := by decide +kernel
theorem dX3_fail_1 : decode cX3_fail 1 = .ok (.iload_n 1, 1) := by decide +kernel
theorem dX3_fail_2 : decode cX3_fail 2 = .ok (.putfield 19, 3) := by decide +kernel
theorem dX3_fail_5 : decode cX3_fail 5 = .ok (.aload_n 0, 1) := by decide +kernel
theorem dX3_fail_6 : decode cX3_fail 6 = .ok (.aload_n 0, 1) := by decide +kernel
theorem dX3_fail_7 : decode cX3_fail 7 = .ok (.getfield 50, 3) := by decide +kernel
theorem dX3_fail_10 : decode cX3_fail 10 = .ok (.putfield 22, 3) := by decide +kernel
theorem dX3_fail_13 : decode cX3_fail 13 = .ok (.return_, 1) := by decide +kernel
theorem dX3_advance_0 : decode cX3_advance 0 = .ok (.aload_n 0, 1) := by decide +kernel
theorem dX3_advance_1 : decode cX3_advance 1 = .ok (.aload_n 0, 1) := by decide +kernel
theorem dX3_advance_2 : decode cX3_advance 2 = .ok (.getfield 53, 3) := by decide +kernel
theorem dX3_advance_5 : decode cX3_advance 5 = .ok (.putfield 50, 3) := by decide +kernel
theorem dX3_advance_8 : decode cX3_advance 8 = .ok (.aload_n 0, 1) := by decide +kernel
theorem dX3_advance_9 : decode cX3_advance 9 = .ok (.getfield 50, 3) := by decide +kernel
theorem dX3_advance_12 : decode cX3_advance 12 = .ok (.aload_n 0, 1) := by decide +kernel
theorem dX3_advance_13 : decode cX3_advance 13 = .ok (.getfield 15, 3) := by decide +kernel
theorem dX3_advance_16 : decode cX3_advance 16 = .ok (.if_icmp .ge 44, 3) := by decide +kernel
theorem dX3_advance_19 : decode cX3_advance 19 = .ok (.aload_n 0, 1) := by decide +kernel
theorem dX3_advance_20 : decode cX3_advance 20 = .ok (.getfield 9, 3) := by decide +kernel
theorem dX3_advance_23 : decode cX3_advance 23 = .ok (.aload_n 0, 1) := by decide +kernel
theorem dX3_advance_24 : decode cX3_advance 24 = .ok (.getfield 50, 3) := by decide +kernel
theorem dX3_advance_27 : decode cX3_advance 27 = .ok (.baload, 1) := by decide +kernel
theorem dX3_advance_28 : decode cX3_advance 28 = .ok (.bipush 32, 2) := by decide +kernel
theorem dX3_advance_30 : decode cX3_advance 30 = .ok (.if_icmp .eq 17, 3) := by decide +kernel
theorem dX3_advance_33 : decode cX3_advance 33 = .ok (.aload_n 0, 1) := by decide +kernel
theorem dX3_advance_34 : decode cX3_advance 34 = .ok (.getfield 9, 3) := by decide +kernel
theorem dX3_advance_37 : decode cX3_advance 37 = .ok (.aload_n 0, 1) := by decide +kernel
theorem dX3_advance_38 : decode cX3_advance 38 = .ok (.getfield 50, 3) := by decide +kernel
theorem dX3_advance_41 : decode cX3_advance 41 = .ok (.baload, 1) := by decide +kernel
theorem dX3_advance_42 : decode cX3_advance 42 = .ok (.bipush 10, 2) := by decide +kernel
theorem dX3_advance_44 : decode cX3_advance 44 = .ok (.if_icmp .ne 16, 3) := by decide +kernel
theorem dX3_advance_47 : decode cX3_advance 47 = .ok (.aload_n 0, 1) := by decide +kernel
theorem dX3_advance_48 : decode cX3_advance 48 = .ok (.dup, 1) := by decide +kernel
theorem dX3_advance_49 : decode cX3_advance 49 = .ok (.getfield 50, 3) := by decide +kernel
theorem dX3_advance_52 : decode cX3_advance 52 = .ok (.iconst 1, 1) := by decide +kernel
theorem dX3_advance_53 : decode cX3_advance 53 = .ok (.iadd, 1) := by decide +kernel
theorem dX3_advance_54 : decode cX3_advance 54 = .ok (.putfield 50, 3) := by decide +kernel
theorem dX3_advance_57 : decode cX3_advance 57 = .ok (.goto (-49), 3) := by decide +kernel
theorem dX3_advance_60 : decode cX3_advance 60 = .ok (.aload_n 0, 1) := by decide +kernel
theorem dX3_advance_61 : decode cX3_advance 61 = .ok (.aload_n 0, 1) := by decide +kernel
theorem dX3_advance_62 : decode cX3_advance 62 = .ok (.getfield 50, 3) := by decide +kernel
theorem dX3_advance_65 : decode cX3_advance 65 = .ok (.putfield 53, 3) := by decide +kernel
theorem dX3_advance_68 : decode cX3_advance 68 = .ok (.aload_n 0, 1) := by decide +kernel
theorem dX3_advance_69 : decode cX3_advance 69 = .ok (.aconst_null, 1) := by decide +kernel
theorem dX3_advance_70 : decode cX3_advance 70 = .ok (.putfield 56, 3) := by decide +kernel
theorem dX3_advance_73 : decode cX3_advance 73 = .ok (.aload_n 0, 1) := by decide +kernel
theorem dX3_advance_74 : decode cX3_advance 74 = .ok (.getfield 50, 3) := by decide +kernel
theorem dX3_advance_77 : decode cX3_advance 77 = .ok (.aload_n 0, 1) := by decide +kernel
theorem dX3_advance_78 : decode cX3_advance 78 = .ok (.getfield 15, 3) := by decide +kernel
theorem dX3_advance_81 : decode cX3_advance 81 = .ok (.if_icmp .lt 9, 3) := by decide +kernel
theorem dX3_advance_84 : decode cX3_advance 84 = .ok (.aload_n 0, 1) := by decide +kernel
theorem dX3_advance_85 : decode cX3_advance 85 = .ok (.iconst 0, 1) := by decide +kernel
theorem dX3_advance_86 : decode cX3_advance 86 = .ok (.putfield 47, 3) := by decide +kernel
theorem dX3_advance_89 : decode cX3_advance 89 = .ok (.return_, 1) := by decide +kernel
theorem dX3_advance_90 : decode cX3_advance 90 = .ok (.aload_n 0, 1) := by decide +kernel
theorem dX3_advance_91 : decode cX3_advance 91 = .ok (.aload_n 0, 1) := by decide +kernel
theorem dX3_advance_92 : decode cX3_advance 92 = .ok (.getfield 9, 3) := by decide +kernel
theorem dX3_advance_95 : decode cX3_advance 95 = .ok (.aload_n 0, 1) := by decide +kernel
theorem dX3_advance_96 : decode cX3_advance 96 = .ok (.getfield 50, 3) := by decide +kernel
theorem dX3_advance_99 : decode cX3_advance 99 = .ok (.baload, 1) := by decide +kernel
theorem dX3_advance_100 : decode cX3_advance 100 = .ok (.invokestatic 211, 3) := by decide +kernel
theorem dX3_advance_103 : decode cX3_advance 103 = .ok (.putfield 47, 3) := by decide +kernel
theorem dX3_advance_106 : decode cX3_advance 106 = .ok (.aload_n 0, 1) := by decide +kernel
theorem dX3_advance_107 : decode cX3_advance 107 = .ok (.dup, 1) := by decide +kernel
theorem dX3_advance_108 : decode cX3_advance 108 = .ok (.getfield 53, 3) := by decide +kernel
theorem dX3_advance_111 : decode cX3_advance 111 = .ok (.iconst 1, 1) := by decide +kernel
theorem dX3_advance_112 : decode cX3_advance 112 = .ok (.iadd, 1) := by decide +kernel
theorem dX3_advance_113 : decode cX3_advance 113 = .ok (.putfield 53, 3) := by decide +kernel
theorem dX3_advance_116 : decode cX3_advance 116 = .ok (.aload_n 0, 1) := by decide +kernel
theorem dX3_advance_117 : decode cX3_advance 117 = .ok (.getfield 47, 3) := by decide +kernel
theorem dX3_advance_120 : decode cX3_advance 120 = .ok (.iconst 1, 1) := by decide +kernel
theorem dX3_advance_121 : decode cX3_advance 121 = .ok (.if_icmp .eq 11, 3) := by decide +kernel
theorem dX3_advance_124 : decode cX3_advance 124 = .ok (.aload_n 0, 1) := by decide +kernel
theorem dX3_advance_125 : decode cX3_advance 125 = .ok (.getfield 47, 3) := by decide +kernel
theorem dX3_advance_128 : decode cX3_advance 128 = .ok (.iconst 2, 1) := by decide +kernel
theorem dX3_advance_129 : decode cX3_advance 129 = .ok (.if_icmp .ne 46, 3) := by decide +kernel
theorem dX3_advance_132 : decode cX3_advance 132 = .ok (.aload_n 0, 1) := by decide +kernel
theorem dX3_advance_133 : decode cX3_advance 133 = .ok (.getfield 53, 3) := by decide +kernel
theorem dX3_advance_136 : decode cX3_advance 136 = .ok (.aload_n 0, 1) := by decide +kernel
theorem dX3_advance_137 : decode cX3_advance 137 = .ok (.getfield 15, 3) := by decide +kernel
theorem dX3_advance_140 : decode cX3_advance 140 = .ok (.if_icmp .ge 35, 3) := by decide +kernel
theorem dX3_advance_143 : decode cX3_advance 143 = .ok (.aload_n 0, 1) := by decide +kernel
theorem dX3_advance_144 : decode cX3_advance 144 = .ok (.getfield 9, 3) := by decide +kernel
theorem dX3_advance_147 : decode cX3_advance 147 = .ok (.aload_n 0, 1) := by decide +kernel
theorem dX3_advance_148 : decode cX3_advance 148 = .ok (.getfield 53, 3) := by decide +kernel
theorem dX3_advance_151 : decode cX3_advance 151 = .ok (.baload, 1) := by decide +kernel
theorem dX3_advance_152 : decode cX3_advance 152 = .ok (.invokestatic 211, 3) := by decide +kernel
theorem dX3_advance_155 : decode cX3_advance 155 = .ok (.aload_n 0, 1) := by decide +kernel
theorem dX3_advance_156 : decode cX3_advance 156 = .ok (.getfield 47, 3) := by decide +kernel
theorem dX3_advance_159 : decode cX3_advance 159 = .ok (.if_icmp .ne 16, 3) := by decide +kernel
theorem dX3_advance_162 : decode cX3_advance 162 = .ok (.aload_n 0, 1) := by decide +kernel
theorem dX3_advance_163 : decode cX3_advance 163 = .ok (.dup, 1) := by decide +kernel
theorem dX3_advance_164 : decode cX3_advance 164 = .ok (.getfield 53, 3) := by decide +kernel
theorem dX3_advance_167 : decode cX3_advance 167 = .ok (.iconst 1, 1) := by decide +kernel
theorem dX3_advance_168 : decode cX3_advance 168 = .ok (.iadd, 1) := by decide +kernel
theorem dX3_advance_169 : decode cX3_advance 169 = .ok (.putfield 53, 3) := by decide +kernel
theorem dX3_advance_172 : decode cX3_advance 172 = .ok (.goto (-40), 3) := by decide +kernel
theorem dX3_advance_175 : decode cX3_advance 175 = .ok (.aload_n 0, 1) := by decide +kernel
theorem dX3_advance_176 : decode cX3_advance 176 = .ok (.getfield 47, 3) := by decide +kernel
theorem dX3_advance_179 : decode cX3_advance 179 = .ok (.iconst 1, 1) := by decide +kernel
theorem dX3_advance_180 : decode cX3_advance 180 = .ok (.if_icmp .ne 11, 3) := by decide +kernel
theorem dX3_advance_183 : decode cX3_advance 183 = .ok (.aload_n 0, 1) := by decide +kernel
theorem dX3_advance_184 : decode cX3_advance 184 = .ok (.aload_n 0, 1) := by decide +kernel
theorem dX3_advance_185 : decode cX3_advance 185 = .ok (.invokevirtual 215, 3) := by decide +kernel
theorem dX3_advance_188 : decode cX3_advance 188 = .ok (.putfield 56, 3) := by decide +kernel
theorem dX3_advance_191 : decode cX3_advance 191 = .ok (.return_, 1) := by decide +kernel
theorem dX3_kindOf_0 : decode cX3_kindOf 0 = .ok (.iload_n 0, 1) := by decide +kernel
theorem dX3_kindOf_1 : decode cX3_kindOf 1 = .ok (.bipush 97, 2) := by decide +kernel
theorem dX3_kindOf_3 : decode cX3_kindOf 3 = .ok (.if_icmp .lt 11, 3) := by decide +kernel
theorem dX3_kindOf_6 : decode cX3_kindOf 6 = .ok (.iload_n 0, 1) := by decide +kernel
theorem dX3_kindOf_7 : decode cX3_kindOf 7 = .ok (.bipush 122, 2) := by decide +kernel
theorem dX3_kindOf_9 : decode cX3_kindOf 9 = .ok (.if_icmp .gt 5, 3) := by decide +kernel
theorem dX3_kindOf_12 : decode cX3_kindOf 12 = .ok (.iconst 1, 1) := by decide +kernel
theorem dX3_kindOf_13 : decode cX3_kindOf 13 = .ok (.ireturn, 1) := by decide +kernel
theorem dX3_kindOf_14 : decode cX3_kindOf 14 = .ok (.iload_n 0, 1) := by decide +kernel
theorem dX3_kindOf_15 : decode cX3_kindOf 15 = .ok (.bipush 48, 2) := by decide +kernel
theorem dX3_kindOf_17 : decode cX3_kindOf 17 = .ok (.if_icmp .lt 11, 3) := by decide +kernel
theorem dX3_kindOf_20 : decode cX3_kindOf 20 = .ok (.iload_n 0, 1) := by decide +kernel
theorem dX3_kindOf_21 : decode cX3_kindOf 21 = .ok (.bipush 57, 2) := by decide +kernel
theorem dX3_kindOf_23 : decode cX3_kindOf 23 = .ok (.if_icmp .gt 5, 3) := by decide +kernel
theorem dX3_kindOf_26 : decode cX3_kindOf 26 = .ok (.iconst 2, 1) := by decide +kernel
theorem dX3_kindOf_27 : decode cX3_kindOf 27 = .ok (.ireturn, 1) := by decide +kernel
theorem dX3_kindOf_28 : decode cX3_kindOf 28 = .ok (.iload_n 0, 1) := by decide +kernel
theorem dX3_kindOf_29 : decode cX3_kindOf 29 = .ok (.bipush 59, 2) := by decide +kernel
theorem dX3_kindOf_31 : decode cX3_kindOf 31 = .ok (.if_icmp .ne 7, 3) := by decide +kernel
theorem dX3_kindOf_34 : decode cX3_kindOf 34 = .ok (.iconst 3, 1) := by decide +kernel
theorem dX3_kindOf_35 : decode cX3_kindOf 35 = .ok (.goto 4, 3) := by decide +kernel
theorem dX3_kindOf_38 : decode cX3_kindOf 38 = .ok (.iconst 4, 1) := by decide +kernel
theorem dX3_kindOf_39 : decode cX3_kindOf 39 = .ok (.ireturn, 1) := by decide +kernel
theorem dX3_wordHere_0 : decode cX3_wordHere 0 = .ok (.getstatic 219, 3) := by decide +kernel
theorem dX3_wordHere_3 : decode cX3_wordHere 3 = .ok (.astore_n 1, 1) := by decide +kernel
theorem dX3_wordHere_4 : decode cX3_wordHere 4 = .ok (.aload_n 1, 1) := by decide +kernel
theorem dX3_wordHere_5 : decode cX3_wordHere 5 = .ok (.arraylength, 1) := by decide +kernel
theorem dX3_wordHere_6 : decode cX3_wordHere 6 = .ok (.istore_n 2, 1) := by decide +kernel
theorem dX3_wordHere_7 : decode cX3_wordHere 7 = .ok (.iconst 0, 1) := by decide +kernel
theorem dX3_wordHere_8 : decode cX3_wordHere 8 = .ok (.istore_n 3, 1) := by decide +kernel
theorem dX3_wordHere_9 : decode cX3_wordHere 9 = .ok (.iload_n 3, 1) := by decide +kernel
theorem dX3_wordHere_10 : decode cX3_wordHere 10 = .ok (.iload_n 2, 1) := by decide +kernel
theorem dX3_wordHere_11 : decode cX3_wordHere 11 = .ok (.if_icmp .ge 107, 3) := by decide +kernel
theorem dX3_wordHere_14 : decode cX3_wordHere 14 = .ok (.aload_n 1, 1) := by decide +kernel
theorem dX3_wordHere_15 : decode cX3_wordHere 15 = .ok (.iload_n 3, 1) := by decide +kernel
theorem dX3_wordHere_16 : decode cX3_wordHere 16 = .ok (.aaload, 1) := by decide +kernel
theorem dX3_wordHere_17 : decode cX3_wordHere 17 = .ok (.astore 4, 2) := by decide +kernel
theorem dX3_wordHere_19 : decode cX3_wordHere 19 = .ok (.aload 4, 2) := by decide +kernel
theorem dX3_wordHere_21 : decode cX3_wordHere 21 = .ok (.getfield 223, 3) := by decide +kernel
theorem dX3_wordHere_24 : decode cX3_wordHere 24 = .ok (.invokevirtual 226, 3) := by decide +kernel
theorem dX3_wordHere_27 : decode cX3_wordHere 27 = .ok (.aload_n 0, 1) := by decide +kernel
theorem dX3_wordHere_28 : decode cX3_wordHere 28 = .ok (.getfield 53, 3) := by decide +kernel
theorem dX3_wordHere_31 : decode cX3_wordHere 31 = .ok (.aload_n 0, 1) := by decide +kernel
theorem dX3_wordHere_32 : decode cX3_wordHere 32 = .ok (.getfield 50, 3) := by decide +kernel
theorem dX3_wordHere_35 : decode cX3_wordHere 35 = .ok (.isub, 1) := by decide +kernel
theorem dX3_wordHere_36 : decode cX3_wordHere 36 = .ok (.if_icmp .ne 7, 3) := by decide +kernel
theorem dX3_wordHere_39 : decode cX3_wordHere 39 = .ok (.iconst 1, 1) := by decide +kernel
theorem dX3_wordHere_40 : decode cX3_wordHere 40 = .ok (.goto 4, 3) := by decide +kernel
theorem dX3_wordHere_43 : decode cX3_wordHere 43 = .ok (.iconst 0, 1) := by decide +kernel
theorem dX3_wordHere_44 : decode cX3_wordHere 44 = .ok (.istore 5, 2) := by decide +kernel
theorem dX3_wordHere_46 : decode cX3_wordHere 46 = .ok (.aload_n 0, 1) := by decide +kernel
theorem dX3_wordHere_47 : decode cX3_wordHere 47 = .ok (.getfield 50, 3) := by decide +kernel
theorem dX3_wordHere_50 : decode cX3_wordHere 50 = .ok (.istore 6, 2) := by decide +kernel
theorem dX3_wordHere_52 : decode cX3_wordHere 52 = .ok (.iload 5, 2) := by decide +kernel
theorem dX3_wordHere_54 : decode cX3_wordHere 54 = .ok (.ifCond .eq 50, 3) := by decide +kernel
theorem dX3_wordHere_57 : decode cX3_wordHere 57 = .ok (.iload 6, 2) := by decide +kernel
theorem dX3_wordHere_59 : decode cX3_wordHere 59 = .ok (.aload_n 0, 1) := by decide +kernel
theorem dX3_wordHere_60 : decode cX3_wordHere 60 = .ok (.getfield 53, 3) := by decide +kernel
theorem dX3_wordHere_63 : decode cX3_wordHere 63 = .ok (.if_icmp .ge 41, 3) := by decide +kernel
theorem dX3_wordHere_66 : decode cX3_wordHere 66 = .ok (.aload 4, 2) := by decide +kernel
theorem dX3_wordHere_68 : decode cX3_wordHere 68 = .ok (.getfield 223, 3) := by decide +kernel
theorem dX3_wordHere_71 : decode cX3_wordHere 71 = .ok (.iload 6, 2) := by decide +kernel
theorem dX3_wordHere_73 : decode cX3_wordHere 73 = .ok (.aload_n 0, 1) := by decide +kernel
theorem dX3_wordHere_74 : decode cX3_wordHere 74 = .ok (.getfield 50, 3) := by decide +kernel
theorem dX3_wordHere_77 : decode cX3_wordHere 77 = .ok (.isub, 1) := by decide +kernel
theorem dX3_wordHere_78 : decode cX3_wordHere 78 = .ok (.invokevirtual 230, 3) := by decide +kernel
theorem dX3_wordHere_81 : decode cX3_wordHere 81 = .ok (.aload_n 0, 1) := by decide +kernel
theorem dX3_wordHere_82 : decode cX3_wordHere 82 = .ok (.getfield 9, 3) := by decide +kernel
theorem dX3_wordHere_85 : decode cX3_wordHere 85 = .ok (.iload 6, 2) := by decide +kernel
theorem dX3_wordHere_87 : decode cX3_wordHere 87 = .ok (.baload, 1) := by decide +kernel
theorem dX3_wordHere_88 : decode cX3_wordHere 88 = .ok (.if_icmp .ne 7, 3) := by decide +kernel
theorem dX3_wordHere_91 : decode cX3_wordHere 91 = .ok (.iconst 1, 1) := by decide +kernel
theorem dX3_wordHere_92 : decode cX3_wordHere 92 = .ok (.goto 4, 3) := by decide +kernel
theorem dX3_wordHere_95 : decode cX3_wordHere 95 = .ok (.iconst 0, 1) := by decide +kernel
theorem dX3_wordHere_96 : decode cX3_wordHere 96 = .ok (.istore 5, 2) := by decide +kernel
theorem dX3_wordHere_98 : decode cX3_wordHere 98 = .ok (.iinc 6 1, 3) := by decide +kernel
theorem dX3_wordHere_101 : decode cX3_wordHere 101 = .ok (.goto (-49), 3) := by decide +kernel
theorem dX3_wordHere_104 : decode cX3_wordHere 104 = .ok (.iload 5, 2) := by decide +kernel
theorem dX3_wordHere_106 : decode cX3_wordHere 106 = .ok (.ifCond .eq 6, 3) := by decide +kernel
theorem dX3_wordHere_109 : decode cX3_wordHere 109 = .ok (.aload 4, 2) := by decide +kernel
theorem dX3_wordHere_111 : decode cX3_wordHere 111 = .ok (.areturn, 1) := by decide +kernel
theorem dX3_wordHere_112 : decode cX3_wordHere 112 = .ok (.iinc 3 1, 3) := by decide +kernel
theorem dX3_wordHere_115 : decode cX3_wordHere 115 = .ok (.goto (-106), 3) := by decide +kernel
theorem dX3_wordHere_118 : decode cX3_wordHere 118 = .ok (.aconst_null, 1) := by decide +kernel
theorem dX3_wordHere_119 : decode cX3_wordHere 119 = .ok (.areturn, 1) := by decide +kernel
