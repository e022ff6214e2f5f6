theorem dX6_init_0 : decode cX6_init 0 = .ok (.aload_n 0, 1) := by decide +kernel
theorem dX6_init_1 : decode cX6_init 1 = .ok (.invokespecial 3, 3) := by decide +kernel
theorem dX6_init_4 : decode cX6_init 4 = .ok (.aload_n 0, 1) := by decide +kernel
theorem dX6_init_5 : decode cX6_init 5 = .ok (.new 9, 3) := by decide +kernel
theorem dX6_init_8 : decode cX6_init 8 = .ok (.dup, 1) := by decide +kernel
theorem dX6_init_9 : decode cX6_init 9 = .ok (.invokespecial 11, 3) := by decide +kernel
theorem dX6_init_12 : decode cX6_init 12 = .ok (.putfield 12, 3) := by decide +kernel
theorem dX6_init_15 : decode cX6_init 15 = .ok (.aload_n 0, 1) := by decide +kernel
theorem dX6_init_16 : decode cX6_init 16 = .ok (.new 16, 3) := by decide +kernel
theorem dX6_init_19 : decode cX6_init 19 = .ok (.dup, 1) := by decide +kernel
theorem dX6_init_20 : decode cX6_init 20 = .ok (.invokespecial 18, 3) := by decide +kernel
theorem dX6_init_23 : decode cX6_init 23 = .ok (.putfield 19, 3) := by decide +kernel
theorem dX6_init_26 : decode cX6_init 26 = .ok (.aload_n 0, 1) := by decide +kernel
theorem dX6_init_27 : decode cX6_init 27 = .ok (.new 23, 3) := by decide +kernel
theorem dX6_init_30 : decode cX6_init 30 = .ok (.dup, 1) := by decide +kernel
theorem dX6_init_31 : decode cX6_init 31 = .ok (.invokespecial 25, 3) := by decide +kernel
theorem dX6_init_34 : decode cX6_init 34 = .ok (.putfield 26, 3) := by decide +kernel
theorem dX6_init_37 : decode cX6_init 37 = .ok (.aload_n 0, 1) := by decide +kernel
theorem dX6_init_38 : decode cX6_init 38 = .ok (.new 30, 3) := by decide +kernel
theorem dX6_init_41 : decode cX6_init 41 = .ok (.dup, 1) := by decide +kernel
theorem dX6_init_42 : decode cX6_init 42 = .ok (.new 32, 3) := by decide +kernel
theorem dX6_init_45 : decode cX6_init 45 = .ok (.dup, 1) := by decide +kernel
theorem dX6_init_46 : decode cX6_init 46 = .ok (.invokespecial 34, 3) := by decide +kernel
theorem dX6_init_49 : decode cX6_init 49 = .ok (.invokespecial 35, 3) := by decide +kernel
theorem dX6_init_52 : decode cX6_init 52 = .ok (.putfield 38, 3) := by decide +kernel
theorem dX6_init_55 : decode cX6_init 55 = .ok (.aload_n 0, 1) := by decide +kernel
theorem dX6_init_56 : decode cX6_init 56 = .ok (.new 30, 3) := by decide +kernel
theorem dX6_init_59 : decode cX6_init 59 = .ok (.dup, 1) := by decide +kernel
theorem dX6_init_60 : decode cX6_init 60 = .ok (.aload_n 0, 1) := by decide +kernel
theorem dX6_init_61 : decode cX6_init 61 = .ok (.getfield 38, 3) := by decide +kernel
theorem dX6_init_64 : decode cX6_init 64 = .ok (.getfield 42, 3) := by decide +kernel
theorem dX6_init_67 : decode cX6_init 67 = .ok (.invokespecial 35, 3) := by decide +kernel
theorem dX6_init_70 : decode cX6_init 70 = .ok (.putfield 46, 3) := by decide +kernel
theorem dX6_init_73 : decode cX6_init 73 = .ok (.aload_n 0, 1) := by decide +kernel
theorem dX6_init_74 : decode cX6_init 74 = .ok (.new 30, 3) := by decide +kernel
theorem dX6_init_77 : decode cX6_init 77 = .ok (.dup, 1) := by decide +kernel
theorem dX6_init_78 : decode cX6_init 78 = .ok (.aload_n 0, 1) := by decide +kernel
theorem dX6_init_79 : decode cX6_init 79 = .ok (.getfield 38, 3) := by decide +kernel
theorem dX6_init_82 : decode cX6_init 82 = .ok (.getfield 42, 3) := by decide +kernel
theorem dX6_init_85 : decode cX6_init 85 = .ok (.invokespecial 35, 3) := by decide +kernel
theorem dX6_init_88 : decode cX6_init 88 = .ok (.putfield 49, 3) := by decide +kernel
theorem dX6_init_91 : decode cX6_init 91 = .ok (.aload_n 0, 1) := by decide +kernel
theorem dX6_init_92 : decode cX6_init 92 = .ok (.new 30, 3) := by decide +kernel
theorem dX6_init_95 : decode cX6_init 95 = .ok (.dup, 1) := by decide +kernel
theorem dX6_init_96 : decode cX6_init 96 = .ok (.aload_n 0, 1) := by decide +kernel
theorem dX6_init_97 : decode cX6_init 97 = .ok (.getfield 38, 3) := by decide +kernel
theorem dX6_init_100 : decode cX6_init 100 = .ok (.getfield 42, 3) := by decide +kernel
theorem dX6_init_103 : decode cX6_init 103 = .ok (.invokespecial 35, 3) := by decide +kernel
theorem dX6_init_106 : decode cX6_init 106 = .ok (.putfield 52, 3) := by decide +kernel
theorem dX6_init_109 : decode cX6_init 109 = .ok (.aload_n 0, 1) := by decide +kernel
theorem dX6_init_110 : decode cX6_init 110 = .ok (.iconst 0, 1) := by decide +kernel
theorem dX6_init_111 : decode cX6_init 111 = .ok (.putfield 55, 3) := by decide +kernel
theorem dX6_init_114 : decode cX6_init 114 = .ok (.aload_n 0, 1) := by decide +kernel
theorem dX6_init_115 : decode cX6_init 115 = .ok (.bipush 10, 2) := by decide +kernel
theorem dX6_init_117 : decode cX6_init 117 = .ok (.anewarray 30, 3) := by decide +kernel
theorem dX6_init_120 : decode cX6_init 120 = .ok (.putfield 59, 3) := by decide +kernel
theorem dX6_init_123 : decode cX6_init 123 = .ok (.aload_n 0, 1) := by decide +kernel
theorem dX6_init_124 : decode cX6_init 124 = .ok (.iconst 0, 1) := by decide +kernel
theorem dX6_init_125 : decode cX6_init 125 = .ok (.putfield 63, 3) := by decide +kernel
theorem dX6_init_128 : decode cX6_init 128 = .ok (.aload_n 0, 1) := by decide +kernel
theorem dX6_init_129 : decode cX6_init 129 = .ok (.iconst 0, 1) := by decide +kernel
theorem dX6_init_130 : decode cX6_init 130 = .ok (.putfield 67, 3) := by decide +kernel
theorem dX6_init_133 : decode cX6_init 133 = .ok (.iconst 0, 1) := by decide +kernel
theorem dX6_init_134 : decode cX6_init 134 = .ok (.istore_n 1, 1) := by decide +kernel
theorem dX6_init_135 : decode cX6_init 135 = .ok (.iload_n 1, 1) := by decide +kernel
theorem dX6_init_136 : decode cX6_init 136 = .ok (.bipush 10, 2) := by decide +kernel
theorem dX6_init_138 : decode cX6_init 138 = .ok (.if_icmp .ge 29, 3) := by decide +kernel
theorem dX6_init_141 : decode cX6_init 141 = .ok (.aload_n 0, 1) := by decide +kernel
theorem dX6_init_142 : decode cX6_init 142 = .ok (.getfield 59, 3) := by decide +kernel
theorem dX6_init_145 : decode cX6_init 145 = .ok (.iload_n 1, 1) := by decide +kernel
theorem dX6_init_146 : decode cX6_init 146 = .ok (.new 30, 3) := by decide +kernel
theorem dX6_init_149 : decode cX6_init 149 = .ok (.dup, 1) := by decide +kernel
theorem dX6_init_150 : decode cX6_init 150 = .ok (.aload_n 0, 1) := by decide +kernel
theorem dX6_init_151 : decode cX6_init 151 = .ok (.getfield 38, 3) := by decide +kernel
theorem dX6_init_154 : decode cX6_init 154 = .ok (.getfield 42, 3) := by decide +kernel
theorem dX6_init_157 : decode cX6_init 157 = .ok (.invokespecial 35, 3) := by decide +kernel
theorem dX6_init_160 : decode cX6_init 160 = .ok (.aastore, 1) := by decide +kernel
theorem dX6_init_161 : decode cX6_init 161 = .ok (.iinc 1 1, 3) := by decide +kernel
theorem dX6_init_164 : decode cX6_init 164 = .ok (.goto (-29), 3) := by decide +kernel
theorem dX6_init_167 : decode cX6_init 167 = .ok (.return_, 1) := by decide +kernel
theorem dX6_appendInput_0 : decode cX6_appendInput 0 = .ok (.aload_n 0, 1) := by decide +kernel
theorem dX6_appendInput_1 : decode cX6_appendInput 1 = .ok (.getfield 12, 3) := by decide +kernel
theorem dX6_appendInput_4 : decode cX6_appendInput 4 = .ok (.getfield 70, 3) := by decide +kernel
theorem dX6_appendInput_7 : decode cX6_appendInput 7 = .ok (.bipush 20, 2) := by decide +kernel
theorem dX6_appendInput_9 : decode cX6_appendInput 9 = .ok (.iadd, 1) := by decide +kernel
theorem dX6_appendInput_10 : decode cX6_appendInput 10 = .ok (.sipush 900, 3) := by decide +kernel
theorem dX6_appendInput_13 : decode cX6_appendInput 13 = .ok (.if_icmp .le 5, 3) := by decide +kernel
theorem dX6_appendInput_16 : decode cX6_appendInput 16 = .ok (.iconst (-1), 1) := by decide +kernel
theorem dX6_appendInput_17 : decode cX6_appendInput 17 = .ok (.ireturn, 1) := by decide +kernel
theorem dX6_appendInput_18 : decode cX6_appendInput 18 = .ok (.aload_n 0, 1) := by decide +kernel
theorem dX6_appendInput_19 : decode cX6_appendInput 19 = .ok (.getfield 12, 3) := by decide +kernel
theorem dX6_appendInput_22 : decode cX6_appendInput 22 = .ok (.iload_n 1, 1) := by decide +kernel
theorem dX6_appendInput_23 : decode cX6_appendInput 23 = .ok (.invokevirtual 73, 3) := by decide +kernel
theorem dX6_appendInput_26 : decode cX6_appendInput 26 = .ok (.aload_n 0, 1) := by decide +kernel
theorem dX6_appendInput_27 : decode cX6_appendInput 27 = .ok (.getfield 12, 3) := by decide +kernel
theorem dX6_appendInput_30 : decode cX6_appendInput 30 = .ok (.iload_n 2, 1) := by decide +kernel
theorem dX6_appendInput_31 : decode cX6_appendInput 31 = .ok (.invokevirtual 73, 3) := by decide +kernel
theorem dX6_appendInput_34 : decode cX6_appendInput 34 = .ok (.aload_n 0, 1) := by decide +kernel
theorem dX6_appendInput_35 : decode cX6_appendInput 35 = .ok (.getfield 12, 3) := by decide +kernel
theorem dX6_appendInput_38 : decode cX6_appendInput 38 = .ok (.iload_n 3, 1) := by decide +kernel
theorem dX6_appendInput_39 : decode cX6_appendInput 39 = .ok (.invokevirtual 73, 3) := by decide +kernel
theorem dX6_appendInput_42 : decode cX6_appendInput 42 = .ok (.aload_n 0, 1) := by decide +kernel
theorem dX6_appendInput_43 : decode cX6_appendInput 43 = .ok (.getfield 12, 3) := by decide +kernel
theorem dX6_appendInput_46 : decode cX6_appendInput 46 = .ok (.iload 4, 2) := by decide +kernel
theorem dX6_appendInput_48 : decode cX6_appendInput 48 = .ok (.invokevirtual 73, 3) := by decide +kernel
theorem dX6_appendInput_51 : decode cX6_appendInput 51 = .ok (.aload_n 0, 1) := by decide +kernel
theorem dX6_appendInput_52 : decode cX6_appendInput 52 = .ok (.getfield 12, 3) := by decide +kernel
theorem dX6_appendInput_55 : decode cX6_appendInput 55 = .ok (.iload 5, 2) := by decide +kernel
theorem dX6_appendInput_57 : decode cX6_appendInput 57 = .ok (.invokevirtual 73, 3) := by decide +kernel
theorem dX6_appendInput_60 : decode cX6_appendInput 60 = .ok (.aload_n 0, 1) := by decide +kernel
theorem dX6_appendInput_61 : decode cX6_appendInput 61 = .ok (.getfield 12, 3) := by decide +kernel
theorem dX6_appendInput_64 : decode cX6_appendInput 64 = .ok (.getfield 70, 3) := by decide +kernel
theorem dX6_appendInput_67 : decode cX6_appendInput 67 = .ok (.ireturn, 1) := by decide +kernel
theorem dX6_truncateInput_0 : decode cX6_truncateInput 0 = .ok (.iload_n 1, 1) := by decide +kernel
theorem dX6_truncateInput_1 : decode cX6_truncateInput 1 = .ok (.ifCond .lt 14, 3) := by decide +kernel
theorem dX6_truncateInput_4 : decode cX6_truncateInput 4 = .ok (.iload_n 1, 1) := by decide +kernel
theorem dX6_truncateInput_5 : decode cX6_truncateInput 5 = .ok (.aload_n 0, 1) := by decide +kernel
theorem dX6_truncateInput_6 : decode cX6_truncateInput 6 = .ok (.getfield 12, 3) := by decide +kernel
theorem dX6_truncateInput_9 : decode cX6_truncateInput 9 = .ok (.getfield 70, 3) := by decide +kernel
theorem dX6_truncateInput_12 : decode cX6_truncateInput 12 = .ok (.if_icmp .le 5, 3) := by decide +kernel
theorem dX6_truncateInput_15 : decode cX6_truncateInput 15 = .ok (.iconst 0, 1) := by decide +kernel
theorem dX6_truncateInput_16 : decode cX6_truncateInput 16 = .ok (.ireturn, 1) := by decide +kernel
theorem dX6_truncateInput_17 : decode cX6_truncateInput 17 = .ok (.aload_n 0, 1) := by decide +kernel
theorem dX6_truncateInput_18 : decode cX6_truncateInput 18 = .ok (.getfield 12, 3) := by decide +kernel
theorem dX6_truncateInput_21 : decode cX6_truncateInput 21 = .ok (.iload_n 1, 1) := by decide +kernel
theorem dX6_truncateInput_22 : decode cX6_truncateInput 22 = .ok (.putfield 70, 3) := by decide +kernel
theorem dX6_truncateInput_25 : decode cX6_truncateInput 25 = .ok (.iconst 1, 1) := by decide +kernel
theorem dX6_truncateInput_26 : decode cX6_truncateInput 26 = .ok (.ireturn, 1) := by decide +kernel
theorem dX6_loadOffice_0 : decode cX6_loadOffice 0 = .ok (.aload_n 0, 1) := by decide +kernel
theorem dX6_loadOffice_1 : decode cX6_loadOffice 1 = .ok (.getfield 12, 3) := by decide +kernel
theorem dX6_loadOffice_4 : decode cX6_loadOffice 4 = .ok (.invokevirtual 77, 3) := by decide +kernel
theorem dX6_loadOffice_7 : decode cX6_loadOffice 7 = .ok (.aload_n 0, 1) := by decide +kernel
theorem dX6_loadOffice_8 : decode cX6_loadOffice 8 = .ok (.getfield 12, 3) := by decide +kernel
theorem dX6_loadOffice_11 : decode cX6_loadOffice 11 = .ok (.iconst 0, 1) := by decide +kernel
theorem dX6_loadOffice_12 : decode cX6_loadOffice 12 = .ok (.putfield 70, 3) := by decide +kernel
theorem dX6_loadOffice_15 : decode cX6_loadOffice 15 = .ok (.aload_n 0, 1) := by decide +kernel
theorem dX6_loadOffice_16 : decode cX6_loadOffice 16 = .ok (.getfield 12, 3) := by decide +kernel
theorem dX6_loadOffice_19 : decode cX6_loadOffice 19 = .ok (.getfield 80, 3) := by decide +kernel
theorem dX6_loadOffice_22 : decode cX6_loadOffice 22 = .ok (.ifCond .eq 5, 3) := by decide +kernel
theorem dX6_loadOffice_25 : decode cX6_loadOffice 25 = .ok (.iconst (-1), 1) := by decide +kernel
theorem dX6_loadOffice_26 : decode cX6_loadOffice 26 = .ok (.ireturn, 1) := by decide +kernel
theorem dX6_loadOffice_27 : decode cX6_loadOffice 27 = .ok (.aload_n 0, 1) := by decide +kernel
theorem dX6_loadOffice_28 : decode cX6_loadOffice 28 = .ok (.getfield 38, 3) := by decide +kernel
theorem dX6_loadOffice_31 : decode cX6_loadOffice 31 = .ok (.astore_n 1, 1) := by decide +kernel
theorem dX6_loadOffice_32 : decode cX6_loadOffice 32 = .ok (.aload_n 0, 1) := by decide +kernel
theorem dX6_loadOffice_33 : decode cX6_loadOffice 33 = .ok (.aload_n 0, 1) := by decide +kernel
theorem dX6_loadOffice_34 : decode cX6_loadOffice 34 = .ok (.getfield 12, 3) := by decide +kernel
theorem dX6_loadOffice_37 : decode cX6_loadOffice 37 = .ok (.getfield 83, 3) := by decide +kernel
theorem dX6_loadOffice_40 : decode cX6_loadOffice 40 = .ok (.putfield 38, 3) := by decide +kernel
theorem dX6_loadOffice_43 : decode cX6_loadOffice 43 = .ok (.aload_n 0, 1) := by decide +kernel
theorem dX6_loadOffice_44 : decode cX6_loadOffice 44 = .ok (.getfield 12, 3) := by decide +kernel
theorem dX6_loadOffice_47 : decode cX6_loadOffice 47 = .ok (.aload_n 1, 1) := by decide +kernel
theorem dX6_loadOffice_48 : decode cX6_loadOffice 48 = .ok (.putfield 83, 3) := by decide +kernel
theorem dX6_loadOffice_51 : decode cX6_loadOffice 51 = .ok (.aload_n 0, 1) := by decide +kernel
theorem dX6_loadOffice_52 : decode cX6_loadOffice 52 = .ok (.iconst 0, 1) := by decide +kernel
theorem dX6_loadOffice_53 : decode cX6_loadOffice 53 = .ok (.putfield 55, 3) := by decide +kernel
theorem dX6_loadOffice_56 : decode cX6_loadOffice 56 = .ok (.aload_n 0, 1) := by decide +kernel
theorem dX6_loadOffice_57 : decode cX6_loadOffice 57 = .ok (.iconst 0, 1) := by decide +kernel
theorem dX6_loadOffice_58 : decode cX6_loadOffice 58 = .ok (.putfield 67, 3) := by decide +kernel
theorem dX6_loadOffice_61 : decode cX6_loadOffice 61 = .ok (.aload_n 0, 1) := by decide +kernel
theorem dX6_loadOffice_62 : decode cX6_loadOffice 62 = .ok (.getfield 38, 3) := by decide +kernel
theorem dX6_loadOffice_65 : decode cX6_loadOffice 65 = .ok (.getfield 86, 3) := by decide +kernel
theorem dX6_loadOffice_68 : decode cX6_loadOffice 68 = .ok (.ireturn, 1) := by decide +kernel
theorem dX6_count_0 : decode cX6_count 0 = .ok (.iload_n 1, 1) := by decide +kernel
theorem dX6_count_1 : decode cX6_count 1 = .ok (.tableswitch 190 0 11 #[63, 74, 82, 93, 104, 115, 126, 137, 153, 169, 177, 185], 63) := by decide +kernel
theorem dX6_count_64 : decode cX6_count 64 = .ok (.aload_n 0, 1) := by decide +kernel
theorem dX6_count_65 : decode cX6_count 65 = .ok (.getfield 38, 3) := by decide +kernel
theorem dX6_count_68 : decode cX6_count 68 = .ok (.getfield 42, 3) := by decide +kernel
theorem dX6_count_71 : decode cX6_count 71 = .ok (.getfield 92, 3) := by decide +kernel
theorem dX6_count_74 : decode cX6_count 74 = .ok (.ireturn, 1) := by decide +kernel
theorem dX6_count_75 : decode cX6_count 75 = .ok (.aload_n 0, 1) := by decide +kernel
theorem dX6_count_76 : decode cX6_count 76 = .ok (.getfield 38, 3) := by decide +kernel
theorem dX6_count_79 : decode cX6_count 79 = .ok (.getfield 86, 3) := by decide +kernel
theorem dX6_count_82 : decode cX6_count 82 = .ok (.ireturn, 1) := by decide +kernel
theorem dX6_count_83 : decode cX6_count 83 = .ok (.aload_n 0, 1) := by decide +kernel
theorem dX6_count_84 : decode cX6_count 84 = .ok (.getfield 38, 3) := by decide +kernel
theorem dX6_count_87 : decode cX6_count 87 = .ok (.getfield 42, 3) := by decide +kernel
theorem dX6_count_90 : decode cX6_count 90 = .ok (.getfield 95, 3) := by decide +kernel
theorem dX6_count_93 : decode cX6_count 93 = .ok (.ireturn, 1) := by decide +kernel
theorem dX6_count_94 : decode cX6_count 94 = .ok (.aload_n 0, 1) := by decide +kernel
theorem dX6_count_95 : decode cX6_count 95 = .ok (.getfield 38, 3) := by decide +kernel
theorem dX6_count_98 : decode cX6_count 98 = .ok (.getfield 98, 3) := by decide +kernel
theorem dX6_count_101 : decode cX6_count 101 = .ok (.invokestatic 102, 3) := by decide +kernel
theorem dX6_count_104 : decode cX6_count 104 = .ok (.ireturn, 1) := by decide +kernel
theorem dX6_count_105 : decode cX6_count 105 = .ok (.aload_n 0, 1) := by decide +kernel
theorem dX6_count_106 : decode cX6_count 106 = .ok (.getfield 38, 3) := by decide +kernel
theorem dX6_count_109 : decode cX6_count 109 = .ok (.invokevirtual 108, 3) := by decide +kernel
theorem dX6_count_112 : decode cX6_count 112 = .ok (.invokestatic 102, 3) := by decide +kernel
theorem dX6_count_115 : decode cX6_count 115 = .ok (.ireturn, 1) := by decide +kernel
theorem dX6_count_116 : decode cX6_count 116 = .ok (.aload_n 0, 1) := by decide +kernel
theorem dX6_count_117 : decode cX6_count 117 = .ok (.getfield 38, 3) := by decide +kernel
theorem dX6_count_120 : decode cX6_count 120 = .ok (.getfield 112, 3) := by decide +kernel
theorem dX6_count_123 : decode cX6_count 123 = .ok (.invokestatic 102, 3) := by decide +kernel
theorem dX6_count_126 : decode cX6_count 126 = .ok (.ireturn, 1) := by decide +kernel
theorem dX6_count_127 : decode cX6_count 127 = .ok (.aload_n 0, 1) := by decide +kernel
theorem dX6_count_128 : decode cX6_count 128 = .ok (.getfield 38, 3) := by decide +kernel
theorem dX6_count_131 : decode cX6_count 131 = .ok (.getfield 42, 3) := by decide +kernel
theorem dX6_count_134 : decode cX6_count 134 = .ok (.getfield 115, 3) := by decide +kernel
theorem dX6_count_137 : decode cX6_count 137 = .ok (.ireturn, 1) := by decide +kernel
theorem dX6_count_138 : decode cX6_count 138 = .ok (.aload_n 0, 1) := by decide +kernel
theorem dX6_count_139 : decode cX6_count 139 = .ok (.getfield 38, 3) := by decide +kernel
theorem dX6_count_142 : decode cX6_count 142 = .ok (.getfield 118, 3) := by decide +kernel
theorem dX6_count_145 : decode cX6_count 145 = .ok (.ifCond .eq 7, 3) := by decide +kernel
theorem dX6_count_148 : decode cX6_count 148 = .ok (.iconst 1, 1) := by decide +kernel
theorem dX6_count_149 : decode cX6_count 149 = .ok (.goto 4, 3) := by decide +kernel
theorem dX6_count_152 : decode cX6_count 152 = .ok (.iconst 0, 1) := by decide +kernel
theorem dX6_count_153 : decode cX6_count 153 = .ok (.ireturn, 1) := by decide +kernel
theorem dX6_count_154 : decode cX6_count 154 = .ok (.aload_n 0, 1) := by decide +kernel
theorem dX6_count_155 : decode cX6_count 155 = .ok (.getfield 38, 3) := by decide +kernel
theorem dX6_count_158 : decode cX6_count 158 = .ok (.getfield 121, 3) := by decide +kernel
theorem dX6_count_161 : decode cX6_count 161 = .ok (.ifCond .eq 7, 3) := by decide +kernel
theorem dX6_count_164 : decode cX6_count 164 = .ok (.iconst 1, 1) := by decide +kernel
theorem dX6_count_165 : decode cX6_count 165 = .ok (.goto 4, 3) := by decide +kernel
theorem dX6_count_168 : decode cX6_count 168 = .ok (.iconst 0, 1) := by decide +kernel
theorem dX6_count_169 : decode cX6_count 169 = .ok (.ireturn, 1) := by decide +kernel
theorem dX6_count_170 : decode cX6_count 170 = .ok (.aload_n 0, 1) := by decide +kernel
theorem dX6_count_171 : decode cX6_count 171 = .ok (.getfield 38, 3) := by decide +kernel
theorem dX6_count_174 : decode cX6_count 174 = .ok (.getfield 124, 3) := by decide +kernel
theorem dX6_count_177 : decode cX6_count 177 = .ok (.ireturn, 1) := by decide +kernel
theorem dX6_count_178 : decode cX6_count 178 = .ok (.aload_n 0, 1) := by decide +kernel
theorem dX6_count_179 : decode cX6_count 179 = .ok (.getfield 38, 3) := by decide +kernel
theorem dX6_count_182 : decode cX6_count 182 = .ok (.getfield 127, 3) := by decide +kernel
theorem dX6_count_185 : decode cX6_count 185 = .ok (.ireturn, 1) := by decide +kernel
theorem dX6_count_186 : decode cX6_count 186 = .ok (.aload_n 0, 1) := by decide +kernel
theorem dX6_count_187 : decode cX6_count 187 = .ok (.getfield 67, 3) := by decide +kernel
theorem dX6_count_190 : decode cX6_count 190 = .ok (.ireturn, 1) := by decide +kernel
theorem dX6_count_191 : decode cX6_count 191 = .ok (.new 130, 3) := by decide +kernel
theorem dX6_count_194 : decode cX6_count 194 = .ok (.dup, 1) := by decide +kernel
theorem dX6_count_195 : decode cX6_count 195 = .ok (.ldc 132, 2) := by decide +kernel
theorem dX6_count_197 : decode cX6_count 197 = .ok (.invokespecial 134, 3) := by decide +kernel
theorem dX6_count_200 : decode cX6_count 200 = .ok (.athrow, 1) := by decide +kernel
theorem dX6_school_0 : decode cX6_school 0 = .ok (.aload_n 0, 1) := by decide +kernel
theorem dX6_school_1 : decode cX6_school 1 = .ok (.iload_n 1, 1) := by decide +kernel
theorem dX6_school_2 : decode cX6_school 2 = .ok (.invokevirtual 137, 3) := by decide +kernel
theorem dX6_school_5 : decode cX6_school 5 = .ok (.aload_n 0, 1) := by decide +kernel
theorem dX6_school_6 : decode cX6_school 6 = .ok (.getfield 38, 3) := by decide +kernel
theorem dX6_school_9 : decode cX6_school 9 = .ok (.getfield 42, 3) := by decide +kernel
theorem dX6_school_12 : decode cX6_school 12 = .ok (.astore_n 3, 1) := by decide +kernel
theorem dX6_school_13 : decode cX6_school 13 = .ok (.iload_n 2, 1) := by decide +kernel
theorem dX6_school_14 : decode cX6_school 14 = .ok (.tableswitch 163 0 9 #[54, 64, 71, 78, 88, 102, 109, 121, 141, 151], 54) := by decide +kernel
theorem dX6_school_68 : decode cX6_school 68 = .ok (.aload_n 0, 1) := by decide +kernel
theorem dX6_school_69 : decode cX6_school 69 = .ok (.getfield 38, 3) := by decide +kernel
theorem dX6_school_72 : decode cX6_school 72 = .ok (.getfield 140, 3) := by decide +kernel
theorem dX6_school_75 : decode cX6_school 75 = .ok (.iload_n 1, 1) := by decide +kernel
theorem dX6_school_76 : decode cX6_school 76 = .ok (.iaload, 1) := by decide +kernel
theorem dX6_school_77 : decode cX6_school 77 = .ok (.ireturn, 1) := by decide +kernel
theorem dX6_school_78 : decode cX6_school 78 = .ok (.aload_n 3, 1) := by decide +kernel
theorem dX6_school_79 : decode cX6_school 79 = .ok (.getfield 144, 3) := by decide +kernel
theorem dX6_school_82 : decode cX6_school 82 = .ok (.iload_n 1, 1) := by decide +kernel
theorem dX6_school_83 : decode cX6_school 83 = .ok (.iaload, 1) := by decide +kernel
theorem dX6_school_84 : decode cX6_school 84 = .ok (.ireturn, 1) := by decide +kernel
theorem dX6_school_85 : decode cX6_school 85 = .ok (.aload_n 3, 1) := by decide +kernel
theorem dX6_school_86 : decode cX6_school 86 = .ok (.getfield 147, 3) := by decide +kernel
theorem dX6_school_89 : decode cX6_school 89 = .ok (.iload_n 1, 1) := by decide +kernel
theorem dX6_school_90 : decode cX6_school 90 = .ok (.iaload, 1) := by decide +kernel
theorem dX6_school_91 : decode cX6_school 91 = .ok (.ireturn, 1) := by decide +kernel
theorem dX6_school_92 : decode cX6_school 92 = .ok (.aload_n 3, 1) := by decide +kernel
theorem dX6_school_93 : decode cX6_school 93 = .ok (.getfield 150, 3) := by decide +kernel
theorem dX6_school_96 : decode cX6_school 96 = .ok (.iload_n 1, 1) := by decide +kernel
theorem dX6_school_97 : decode cX6_school 97 = .ok (.iaload, 1) := by decide +kernel
theorem dX6_school_98 : decode cX6_school 98 = .ok (.invokestatic 153, 3) := by decide +kernel
theorem dX6_school_101 : decode cX6_school 101 = .ok (.ireturn, 1) := by decide +kernel
theorem dX6_school_102 : decode cX6_school 102 = .ok (.aload_n 3, 1) := by decide +kernel
theorem dX6_school_103 : decode cX6_school 103 = .ok (.iload_n 1, 1) := by decide +kernel
theorem dX6_school_104 : decode cX6_school 104 = .ok (.invokevirtual 157, 3) := by decide +kernel
theorem dX6_school_107 : decode cX6_school 107 = .ok (.ifCond .eq 7, 3) := by decide +kernel
theorem dX6_school_110 : decode cX6_school 110 = .ok (.iconst 1, 1) := by decide +kernel
theorem dX6_school_111 : decode cX6_school 111 = .ok (.goto 4, 3) := by decide +kernel
theorem dX6_school_114 : decode cX6_school 114 = .ok (.iconst 0, 1) := by decide +kernel
theorem dX6_school_115 : decode cX6_school 115 = .ok (.ireturn, 1) := by decide +kernel
theorem dX6_school_116 : decode cX6_school 116 = .ok (.aload_n 3, 1) := by decide +kernel
theorem dX6_school_117 : decode cX6_school 117 = .ok (.getfield 161, 3) := by decide +kernel
theorem dX6_school_120 : decode cX6_school 120 = .ok (.iload_n 1, 1) := by decide +kernel
theorem dX6_school_121 : decode cX6_school 121 = .ok (.iaload, 1) := by decide +kernel
theorem dX6_school_122 : decode cX6_school 122 = .ok (.ireturn, 1) := by decide +kernel
theorem dX6_school_123 : decode cX6_school 123 = .ok (.aload_n 0, 1) := by decide +kernel
theorem dX6_school_124 : decode cX6_school 124 = .ok (.getfield 38, 3) := by decide +kernel
theorem dX6_school_127 : decode cX6_school 127 = .ok (.iload_n 1, 1) := by decide +kernel
theorem dX6_school_128 : decode cX6_school 128 = .ok (.invokevirtual 164, 3) := by decide +kernel
theorem dX6_school_131 : decode cX6_school 131 = .ok (.invokestatic 102, 3) := by decide +kernel
theorem dX6_school_134 : decode cX6_school 134 = .ok (.ireturn, 1) := by decide +kernel
theorem dX6_school_135 : decode cX6_school 135 = .ok (.aload_n 0, 1) := by decide +kernel
theorem dX6_school_136 : decode cX6_school 136 = .ok (.getfield 38, 3) := by decide +kernel
theorem dX6_school_139 : decode cX6_school 139 = .ok (.iload_n 1, 1) := by decide +kernel
theorem dX6_school_140 : decode cX6_school 140 = .ok (.invokevirtual 164, 3) := by decide +kernel
theorem dX6_school_143 : decode cX6_school 143 = .ok (.aload_n 0, 1) := by decide +kernel
theorem dX6_school_144 : decode cX6_school 144 = .ok (.getfield 38, 3) := by decide +kernel
theorem dX6_school_147 : decode cX6_school 147 = .ok (.getfield 168, 3) := by decide +kernel
theorem dX6_school_150 : decode cX6_school 150 = .ok (.land, 1) := by decide +kernel
theorem dX6_school_151 : decode cX6_school 151 = .ok (.invokestatic 102, 3) := by decide +kernel
theorem dX6_school_154 : decode cX6_school 154 = .ok (.ireturn, 1) := by decide +kernel
theorem dX6_school_155 : decode cX6_school 155 = .ok (.aload_n 0, 1) := by decide +kernel
theorem dX6_school_156 : decode cX6_school 156 = .ok (.getfield 38, 3) := by decide +kernel
theorem dX6_school_159 : decode cX6_school 159 = .ok (.getfield 171, 3) := by decide +kernel
theorem dX6_school_162 : decode cX6_school 162 = .ok (.iload_n 1, 1) := by decide +kernel
theorem dX6_school_163 : decode cX6_school 163 = .ok (.iaload, 1) := by decide +kernel
theorem dX6_school_164 : decode cX6_school 164 = .ok (.ireturn, 1) := by decide +kernel
theorem dX6_school_165 : decode cX6_school 165 = .ok (.aload_n 0, 1) := by decide +kernel
theorem dX6_school_166 : decode cX6_school 166 = .ok (.getfield 38, 3) := by decide +kernel
theorem dX6_school_169 : decode cX6_school 169 = .ok (.iload_n 1, 1) := by decide +kernel
theorem dX6_school_170 : decode cX6_school 170 = .ok (.invokevirtual 174, 3) := by decide +kernel
theorem dX6_school_173 : decode cX6_school 173 = .ok (.invokestatic 102, 3) := by decide +kernel
theorem dX6_school_176 : decode cX6_school 176 = .ok (.ireturn, 1) := by decide +kernel
theorem dX6_school_177 : decode cX6_school 177 = .ok (.new 130, 3) := by decide +kernel
theorem dX6_school_180 : decode cX6_school 180 = .ok (.dup, 1) := by decide +kernel
theorem dX6_school_181 : decode cX6_school 181 = .ok (.ldc 177, 2) := by decide +kernel
theorem dX6_school_183 : decode cX6_school 183 = .ok (.invokespecial 134, 3) := by decide +kernel
theorem dX6_school_186 : decode cX6_school 186 = .ok (.athrow, 1) := by decide +kernel
theorem dX6_child_0 : decode cX6_child 0 = .ok (.aload_n 0, 1) := by decide +kernel
theorem dX6_child_1 : decode cX6_child 1 = .ok (.iload_n 1, 1) := by decide +kernel
theorem dX6_child_2 : decode cX6_child 2 = .ok (.invokevirtual 188, 3) := by decide +kernel
theorem dX6_child_5 : decode cX6_child 5 = .ok (.iload_n 2, 1) := by decide +kernel
theorem dX6_child_6 : decode cX6_child 6 = .ok (.tableswitch 183 0 8 #[50, 60, 70, 80, 100, 110, 123, 143, 163], 50) := by decide +kernel
theorem dX6_child_56 : decode cX6_child 56 = .ok (.aload_n 0, 1) := by decide +kernel
theorem dX6_child_57 : decode cX6_child 57 = .ok (.getfield 38, 3) := by decide +kernel
theorem dX6_child_60 : decode cX6_child 60 = .ok (.getfield 191, 3) := by decide +kernel
theorem dX6_child_63 : decode cX6_child 63 = .ok (.iload_n 1, 1) := by decide +kernel
theorem dX6_child_64 : decode cX6_child 64 = .ok (.iaload, 1) := by decide +kernel
theorem dX6_child_65 : decode cX6_child 65 = .ok (.ireturn, 1) := by decide +kernel
theorem dX6_child_66 : decode cX6_child 66 = .ok (.aload_n 0, 1) := by decide +kernel
theorem dX6_child_67 : decode cX6_child 67 = .ok (.getfield 38, 3) := by decide +kernel
theorem dX6_child_70 : decode cX6_child 70 = .ok (.getfield 192, 3) := by decide +kernel
theorem dX6_child_73 : decode cX6_child 73 = .ok (.iload_n 1, 1) := by decide +kernel
theorem dX6_child_74 : decode cX6_child 74 = .ok (.iaload, 1) := by decide +kernel
theorem dX6_child_75 : decode cX6_child 75 = .ok (.ireturn, 1) := by decide +kernel
theorem dX6_child_76 : decode cX6_child 76 = .ok (.aload_n 0, 1) := by decide +kernel
theorem dX6_child_77 : decode cX6_child 77 = .ok (.getfield 38, 3) := by decide +kernel
theorem dX6_child_80 : decode cX6_child 80 = .ok (.getfield 193, 3) := by decide +kernel
theorem dX6_child_83 : decode cX6_child 83 = .ok (.iload_n 1, 1) := by decide +kernel
theorem dX6_child_84 : decode cX6_child 84 = .ok (.iaload, 1) := by decide +kernel
theorem dX6_child_85 : decode cX6_child 85 = .ok (.ireturn, 1) := by decide +kernel
theorem dX6_child_86 : decode cX6_child 86 = .ok (.aload_n 0, 1) := by decide +kernel
theorem dX6_child_87 : decode cX6_child 87 = .ok (.getfield 38, 3) := by decide +kernel
theorem dX6_child_90 : decode cX6_child 90 = .ok (.getfield 196, 3) := by decide +kernel
theorem dX6_child_93 : decode cX6_child 93 = .ok (.iload_n 1, 1) := by decide +kernel
theorem dX6_child_94 : decode cX6_child 94 = .ok (.invokestatic 199, 3) := by decide +kernel
theorem dX6_child_97 : decode cX6_child 97 = .ok (.ifCond .eq 7, 3) := by decide +kernel
theorem dX6_child_100 : decode cX6_child 100 = .ok (.iconst 1, 1) := by decide +kernel
theorem dX6_child_101 : decode cX6_child 101 = .ok (.goto 4, 3) := by decide +kernel
theorem dX6_child_104 : decode cX6_child 104 = .ok (.iconst 0, 1) := by decide +kernel
theorem dX6_child_105 : decode cX6_child 105 = .ok (.ireturn, 1) := by decide +kernel
theorem dX6_child_106 : decode cX6_child 106 = .ok (.aload_n 0, 1) := by decide +kernel
theorem dX6_child_107 : decode cX6_child 107 = .ok (.getfield 38, 3) := by decide +kernel
theorem dX6_child_110 : decode cX6_child 110 = .ok (.getfield 203, 3) := by decide +kernel
theorem dX6_child_113 : decode cX6_child 113 = .ok (.iload_n 1, 1) := by decide +kernel
theorem dX6_child_114 : decode cX6_child 114 = .ok (.iaload, 1) := by decide +kernel
theorem dX6_child_115 : decode cX6_child 115 = .ok (.ireturn, 1) := by decide +kernel
theorem dX6_child_116 : decode cX6_child 116 = .ok (.aload_n 0, 1) := by decide +kernel
theorem dX6_child_117 : decode cX6_child 117 = .ok (.getfield 38, 3) := by decide +kernel
theorem dX6_child_120 : decode cX6_child 120 = .ok (.getfield 206, 3) := by decide +kernel
theorem dX6_child_123 : decode cX6_child 123 = .ok (.iload_n 1, 1) := by decide +kernel
theorem dX6_child_124 : decode cX6_child 124 = .ok (.iaload, 1) := by decide +kernel
theorem dX6_child_125 : decode cX6_child 125 = .ok (.invokestatic 153, 3) := by decide +kernel
theorem dX6_child_128 : decode cX6_child 128 = .ok (.ireturn, 1) := by decide +kernel
theorem dX6_child_129 : decode cX6_child 129 = .ok (.aload_n 0, 1) := by decide +kernel
theorem dX6_child_130 : decode cX6_child 130 = .ok (.getfield 38, 3) := by decide +kernel
theorem dX6_child_133 : decode cX6_child 133 = .ok (.getfield 112, 3) := by decide +kernel
theorem dX6_child_136 : decode cX6_child 136 = .ok (.iload_n 1, 1) := by decide +kernel
theorem dX6_child_137 : decode cX6_child 137 = .ok (.invokestatic 199, 3) := by decide +kernel
theorem dX6_child_140 : decode cX6_child 140 = .ok (.ifCond .eq 7, 3) := by decide +kernel
theorem dX6_child_143 : decode cX6_child 143 = .ok (.iconst 1, 1) := by decide +kernel
theorem dX6_child_144 : decode cX6_child 144 = .ok (.goto 4, 3) := by decide +kernel
theorem dX6_child_147 : decode cX6_child 147 = .ok (.iconst 0, 1) := by decide +kernel
theorem dX6_child_148 : decode cX6_child 148 = .ok (.ireturn, 1) := by decide +kernel
theorem dX6_child_149 : decode cX6_child 149 = .ok (.aload_n 0, 1) := by decide +kernel
theorem dX6_child_150 : decode cX6_child 150 = .ok (.getfield 38, 3) := by decide +kernel
theorem dX6_child_153 : decode cX6_child 153 = .ok (.getfield 98, 3) := by decide +kernel
theorem dX6_child_156 : decode cX6_child 156 = .ok (.iload_n 1, 1) := by decide +kernel
theorem dX6_child_157 : decode cX6_child 157 = .ok (.invokestatic 199, 3) := by decide +kernel
theorem dX6_child_160 : decode cX6_child 160 = .ok (.ifCond .eq 7, 3) := by decide +kernel
theorem dX6_child_163 : decode cX6_child 163 = .ok (.iconst 1, 1) := by decide +kernel
theorem dX6_child_164 : decode cX6_child 164 = .ok (.goto 4, 3) := by decide +kernel
theorem dX6_child_167 : decode cX6_child 167 = .ok (.iconst 0, 1) := by decide +kernel
theorem dX6_child_168 : decode cX6_child 168 = .ok (.ireturn, 1) := by decide +kernel
theorem dX6_child_169 : decode cX6_child 169 = .ok (.aload_n 0, 1) := by decide +kernel
theorem dX6_child_170 : decode cX6_child 170 = .ok (.getfield 38, 3) := by decide +kernel
theorem dX6_child_173 : decode cX6_child 173 = .ok (.getfield 168, 3) := by decide +kernel
theorem dX6_child_176 : decode cX6_child 176 = .ok (.iload_n 1, 1) := by decide +kernel
theorem dX6_child_177 : decode cX6_child 177 = .ok (.invokestatic 199, 3) := by decide +kernel
theorem dX6_child_180 : decode cX6_child 180 = .ok (.ifCond .eq 7, 3) := by decide +kernel
theorem dX6_child_183 : decode cX6_child 183 = .ok (.iconst 1, 1) := by decide +kernel
theorem dX6_child_184 : decode cX6_child 184 = .ok (.goto 4, 3) := by decide +kernel
theorem dX6_child_187 : decode cX6_child 187 = .ok (.iconst 0, 1) := by decide +kernel
theorem dX6_child_188 : decode cX6_child 188 = .ok (.ireturn, 1) := by decide +kernel
theorem dX6_child_189 : decode cX6_child 189 = .ok (.new 130, 3) := by decide +kernel
theorem dX6_child_192 : decode cX6_child 192 = .ok (.dup, 1) := by decide +kernel
theorem dX6_child_193 : decode cX6_child 193 = .ok (.ldc 209, 2) := by decide +kernel
theorem dX6_child_195 : decode cX6_child 195 = .ok (.invokespecial 134, 3) := by decide +kernel
theorem dX6_child_198 : decode cX6_child 198 = .ok (.athrow, 1) := by decide +kernel
theorem dX6_placeOf_0 : decode cX6_placeOf 0 = .ok (.aload_n 0, 1) := by decide +kernel
theorem dX6_placeOf_1 : decode cX6_placeOf 1 = .ok (.iload_n 1, 1) := by decide +kernel
theorem dX6_placeOf_2 : decode cX6_placeOf 2 = .ok (.invokevirtual 188, 3) := by decide +kernel
theorem dX6_placeOf_5 : decode cX6_placeOf 5 = .ok (.aload_n 0, 1) := by decide +kernel
theorem dX6_placeOf_6 : decode cX6_placeOf 6 = .ok (.getfield 38, 3) := by decide +kernel
theorem dX6_placeOf_9 : decode cX6_placeOf 9 = .ok (.getfield 213, 3) := by decide +kernel
theorem dX6_placeOf_12 : decode cX6_placeOf 12 = .ok (.iload_n 1, 1) := by decide +kernel
theorem dX6_placeOf_13 : decode cX6_placeOf 13 = .ok (.iaload, 1) := by decide +kernel
theorem dX6_placeOf_14 : decode cX6_placeOf 14 = .ok (.ireturn, 1) := by decide +kernel
theorem dX6_gotPreference_0 : decode cX6_gotPreference 0 = .ok (.aload_n 0, 1) := by decide +kernel
theorem dX6_gotPreference_1 : decode cX6_gotPreference 1 = .ok (.iload_n 1, 1) := by decide +kernel
theorem dX6_gotPreference_2 : decode cX6_gotPreference 2 = .ok (.invokevirtual 188, 3) := by decide +kernel
theorem dX6_gotPreference_5 : decode cX6_gotPreference 5 = .ok (.aload_n 0, 1) := by decide +kernel
theorem dX6_gotPreference_6 : decode cX6_gotPreference 6 = .ok (.getfield 38, 3) := by decide +kernel
theorem dX6_gotPreference_9 : decode cX6_gotPreference 9 = .ok (.iload_n 1, 1) := by decide +kernel
theorem dX6_gotPreference_10 : decode cX6_gotPreference 10 = .ok (.invokevirtual 216, 3) := by decide +kernel
theorem dX6_gotPreference_13 : decode cX6_gotPreference 13 = .ok (.ireturn, 1) := by decide +kernel
theorem dX6_holder_0 : decode cX6_holder 0 = .ok (.aload_n 0, 1) := by decide +kernel
theorem dX6_holder_1 : decode cX6_holder 1 = .ok (.iload_n 1, 1) := by decide +kernel
theorem dX6_holder_2 : decode cX6_holder 2 = .ok (.invokevirtual 137, 3) := by decide +kernel
theorem dX6_holder_5 : decode cX6_holder 5 = .ok (.aload_n 0, 1) := by decide +kernel
theorem dX6_holder_6 : decode cX6_holder 6 = .ok (.getfield 38, 3) := by decide +kernel
theorem dX6_holder_9 : decode cX6_holder 9 = .ok (.aload_n 0, 1) := by decide +kernel
theorem dX6_holder_10 : decode cX6_holder 10 = .ok (.getfield 38, 3) := by decide +kernel
theorem dX6_holder_13 : decode cX6_holder 13 = .ok (.iload_n 1, 1) := by decide +kernel
theorem dX6_holder_14 : decode cX6_holder 14 = .ok (.invokevirtual 164, 3) := by decide +kernel
theorem dX6_holder_17 : decode cX6_holder 17 = .ok (.iload_n 1, 1) := by decide +kernel
theorem dX6_holder_18 : decode cX6_holder 18 = .ok (.iload_n 2, 1) := by decide +kernel
theorem dX6_holder_19 : decode cX6_holder 19 = .ok (.invokevirtual 233, 3) := by decide +kernel
theorem dX6_holder_22 : decode cX6_holder 22 = .ok (.istore_n 3, 1) := by decide +kernel
theorem dX6_holder_23 : decode cX6_holder 23 = .ok (.iload_n 3, 1) := by decide +kernel
theorem dX6_holder_24 : decode cX6_holder 24 = .ok (.iconst (-1), 1) := by decide +kernel
theorem dX6_holder_25 : decode cX6_holder 25 = .ok (.if_icmp .ne 13, 3) := by decide +kernel
theorem dX6_holder_28 : decode cX6_holder 28 = .ok (.new 183, 3) := by decide +kernel
theorem dX6_holder_31 : decode cX6_holder 31 = .ok (.dup, 1) := by decide +kernel
theorem dX6_holder_32 : decode cX6_holder 32 = .ok (.ldc 237, 2) := by decide +kernel
theorem dX6_holder_34 : decode cX6_holder 34 = .ok (.invokespecial 187, 3) := by decide +kernel
theorem dX6_holder_37 : decode cX6_holder 37 = .ok (.athrow, 1) := by decide +kernel
theorem dX6_holder_38 : decode cX6_holder 38 = .ok (.iload_n 3, 1) := by decide +kernel
theorem dX6_holder_39 : decode cX6_holder 39 = .ok (.ireturn, 1) := by decide +kernel
theorem dX6_waitingPlace_0 : decode cX6_waitingPlace 0 = .ok (.aload_n 0, 1) := by decide +kernel
theorem dX6_waitingPlace_1 : decode cX6_waitingPlace 1 = .ok (.iload_n 1, 1) := by decide +kernel
theorem dX6_waitingPlace_2 : decode cX6_waitingPlace 2 = .ok (.invokevirtual 188, 3) := by decide +kernel
theorem dX6_waitingPlace_5 : decode cX6_waitingPlace 5 = .ok (.aload_n 0, 1) := by decide +kernel
theorem dX6_waitingPlace_6 : decode cX6_waitingPlace 6 = .ok (.iload_n 2, 1) := by decide +kernel
theorem dX6_waitingPlace_7 : decode cX6_waitingPlace 7 = .ok (.invokevirtual 137, 3) := by decide +kernel
theorem dX6_waitingPlace_10 : decode cX6_waitingPlace 10 = .ok (.aload_n 0, 1) := by decide +kernel
theorem dX6_waitingPlace_11 : decode cX6_waitingPlace 11 = .ok (.getfield 38, 3) := by decide +kernel
theorem dX6_waitingPlace_14 : decode cX6_waitingPlace 14 = .ok (.iload_n 1, 1) := by decide +kernel
theorem dX6_waitingPlace_15 : decode cX6_waitingPlace 15 = .ok (.iload_n 2, 1) := by decide +kernel
theorem dX6_waitingPlace_16 : decode cX6_waitingPlace 16 = .ok (.invokevirtual 241, 3) := by decide +kernel
theorem dX6_waitingPlace_19 : decode cX6_waitingPlace 19 = .ok (.ifCond .ne 5, 3) := by decide +kernel
theorem dX6_waitingPlace_22 : decode cX6_waitingPlace 22 = .ok (.iconst (-1), 1) := by decide +kernel
theorem dX6_waitingPlace_23 : decode cX6_waitingPlace 23 = .ok (.ireturn, 1) := by decide +kernel
theorem dX6_waitingPlace_24 : decode cX6_waitingPlace 24 = .ok (.aload_n 0, 1) := by decide +kernel
theorem dX6_waitingPlace_25 : decode cX6_waitingPlace 25 = .ok (.getfield 38, 3) := by decide +kernel
theorem dX6_waitingPlace_28 : decode cX6_waitingPlace 28 = .ok (.iload_n 1, 1) := by decide +kernel
theorem dX6_waitingPlace_29 : decode cX6_waitingPlace 29 = .ok (.aload_n 0, 1) := by decide +kernel
theorem dX6_waitingPlace_30 : decode cX6_waitingPlace 30 = .ok (.getfield 38, 3) := by decide +kernel
theorem dX6_waitingPlace_33 : decode cX6_waitingPlace 33 = .ok (.iload_n 2, 1) := by decide +kernel
theorem dX6_waitingPlace_34 : decode cX6_waitingPlace 34 = .ok (.invokevirtual 174, 3) := by decide +kernel
theorem dX6_waitingPlace_37 : decode cX6_waitingPlace 37 = .ok (.iload_n 2, 1) := by decide +kernel
theorem dX6_waitingPlace_38 : decode cX6_waitingPlace 38 = .ok (.invokevirtual 245, 3) := by decide +kernel
theorem dX6_waitingPlace_41 : decode cX6_waitingPlace 41 = .ok (.ireturn, 1) := by decide +kernel
theorem dX6_hasClaim_0 : decode cX6_hasClaim 0 = .ok (.aload_n 0, 1) := by decide +kernel
theorem dX6_hasClaim_1 : decode cX6_hasClaim 1 = .ok (.iload_n 1, 1) := by decide +kernel
theorem dX6_hasClaim_2 : decode cX6_hasClaim 2 = .ok (.invokevirtual 188, 3) := by decide +kernel
theorem dX6_hasClaim_5 : decode cX6_hasClaim 5 = .ok (.aload_n 0, 1) := by decide +kernel
theorem dX6_hasClaim_6 : decode cX6_hasClaim 6 = .ok (.iload_n 2, 1) := by decide +kernel
theorem dX6_hasClaim_7 : decode cX6_hasClaim 7 = .ok (.invokevirtual 137, 3) := by decide +kernel
theorem dX6_hasClaim_10 : decode cX6_hasClaim 10 = .ok (.aload_n 0, 1) := by decide +kernel
theorem dX6_hasClaim_11 : decode cX6_hasClaim 11 = .ok (.getfield 38, 3) := by decide +kernel
theorem dX6_hasClaim_14 : decode cX6_hasClaim 14 = .ok (.iload_n 1, 1) := by decide +kernel
theorem dX6_hasClaim_15 : decode cX6_hasClaim 15 = .ok (.iload_n 2, 1) := by decide +kernel
theorem dX6_hasClaim_16 : decode cX6_hasClaim 16 = .ok (.invokevirtual 249, 3) := by decide +kernel
theorem dX6_hasClaim_19 : decode cX6_hasClaim 19 = .ok (.ireturn, 1) := by decide +kernel
theorem dX6_claims_0 : decode cX6_claims 0 = .ok (.iconst 0, 1) := by decide +kernel
theorem dX6_claims_1 : decode cX6_claims 1 = .ok (.istore_n 1, 1) := by decide +kernel
theorem dX6_claims_2 : decode cX6_claims 2 = .ok (.iconst 0, 1) := by decide +kernel
theorem dX6_claims_3 : decode cX6_claims 3 = .ok (.istore_n 2, 1) := by decide +kernel
theorem dX6_claims_4 : decode cX6_claims 4 = .ok (.iload_n 2, 1) := by decide +kernel
theorem dX6_claims_5 : decode cX6_claims 5 = .ok (.aload_n 0, 1) := by decide +kernel
theorem dX6_claims_6 : decode cX6_claims 6 = .ok (.getfield 38, 3) := by decide +kernel
theorem dX6_claims_9 : decode cX6_claims 9 = .ok (.getfield 42, 3) := by decide +kernel
theorem dX6_claims_12 : decode cX6_claims 12 = .ok (.getfield 92, 3) := by decide +kernel
theorem dX6_claims_15 : decode cX6_claims 15 = .ok (.if_icmp .ge 43, 3) := by decide +kernel
theorem dX6_claims_18 : decode cX6_claims 18 = .ok (.iconst 0, 1) := by decide +kernel
theorem dX6_claims_19 : decode cX6_claims 19 = .ok (.istore_n 3, 1) := by decide +kernel
theorem dX6_claims_20 : decode cX6_claims 20 = .ok (.iload_n 3, 1) := by decide +kernel
theorem dX6_claims_21 : decode cX6_claims 21 = .ok (.aload_n 0, 1) := by decide +kernel
theorem dX6_claims_22 : decode cX6_claims 22 = .ok (.getfield 38, 3) := by decide +kernel
theorem dX6_claims_25 : decode cX6_claims 25 = .ok (.getfield 86, 3) := by decide +kernel
theorem dX6_claims_28 : decode cX6_claims 28 = .ok (.if_icmp .ge 24, 3) := by decide +kernel
theorem dX6_claims_31 : decode cX6_claims 31 = .ok (.aload_n 0, 1) := by decide +kernel
theorem dX6_claims_32 : decode cX6_claims 32 = .ok (.getfield 38, 3) := by decide +kernel
theorem dX6_claims_35 : decode cX6_claims 35 = .ok (.iload_n 3, 1) := by decide +kernel
theorem dX6_claims_36 : decode cX6_claims 36 = .ok (.iload_n 2, 1) := by decide +kernel
theorem dX6_claims_37 : decode cX6_claims 37 = .ok (.invokevirtual 249, 3) := by decide +kernel
theorem dX6_claims_40 : decode cX6_claims 40 = .ok (.ifCond .eq 6, 3) := by decide +kernel
theorem dX6_claims_43 : decode cX6_claims 43 = .ok (.iinc 1 1, 3) := by decide +kernel
theorem dX6_claims_46 : decode cX6_claims 46 = .ok (.iinc 3 1, 3) := by decide +kernel
theorem dX6_claims_49 : decode cX6_claims 49 = .ok (.goto (-29), 3) := by decide +kernel
theorem dX6_claims_52 : decode cX6_claims 52 = .ok (.iinc 2 1, 3) := by decide +kernel
theorem dX6_claims_55 : decode cX6_claims 55 = .ok (.goto (-51), 3) := by decide +kernel
theorem dX6_claims_58 : decode cX6_claims 58 = .ok (.iload_n 1, 1) := by decide +kernel
theorem dX6_claims_59 : decode cX6_claims 59 = .ok (.ireturn, 1) := by decide +kernel
theorem dX6_allocate_0 : decode cX6_allocate 0 = .ok (.aload_n 0, 1) := by decide +kernel
theorem dX6_allocate_1 : decode cX6_allocate 1 = .ok (.invokevirtual 255, 3) := by decide +kernel
theorem dX6_allocate_4 : decode cX6_allocate 4 = .ok (.aload_n 0, 1) := by decide +kernel
theorem dX6_allocate_5 : decode cX6_allocate 5 = .ok (.getfield 19, 3) := by decide +kernel
theorem dX6_allocate_8 : decode cX6_allocate 8 = .ok (.aload_n 0, 1) := by decide +kernel
theorem dX6_allocate_9 : decode cX6_allocate 9 = .ok (.getfield 38, 3) := by decide +kernel
theorem dX6_allocate_12 : decode cX6_allocate 12 = .ok (.invokevirtual 258, 3) := by decide +kernel
theorem dX6_allocate_15 : decode cX6_allocate 15 = .ok (.aload_n 0, 1) := by decide +kernel
theorem dX6_allocate_16 : decode cX6_allocate 16 = .ok (.getfield 38, 3) := by decide +kernel
theorem dX6_allocate_19 : decode cX6_allocate 19 = .ok (.getfield 124, 3) := by decide +kernel
theorem dX6_allocate_22 : decode cX6_allocate 22 = .ok (.ireturn, 1) := by decide +kernel
theorem dX6_addChild_0 : decode cX6_addChild 0 = .ok (.iload_n 1, 1) := by decide +kernel
theorem dX6_addChild_1 : decode cX6_addChild 1 = .ok (.iload_n 2, 1) := by decide +kernel
theorem dX6_addChild_2 : decode cX6_addChild 2 = .ok (.invokestatic 262, 3) := by decide +kernel
theorem dX6_addChild_5 : decode cX6_addChild 5 = .ok (.iload_n 3, 1) := by decide +kernel
theorem dX6_addChild_6 : decode cX6_addChild 6 = .ok (.ifCond .lt 9, 3) := by decide +kernel
theorem dX6_addChild_9 : decode cX6_addChild 9 = .ok (.iload_n 3, 1) := by decide +kernel
theorem dX6_addChild_10 : decode cX6_addChild 10 = .ok (.bipush 99, 2) := by decide +kernel
theorem dX6_addChild_12 : decode cX6_addChild 12 = .ok (.if_icmp .le 14, 3) := by decide +kernel
theorem dX6_addChild_15 : decode cX6_addChild 15 = .ok (.new 130, 3) := by decide +kernel
theorem dX6_addChild_18 : decode cX6_addChild 18 = .ok (.dup, 1) := by decide +kernel
theorem dX6_addChild_19 : decode cX6_addChild 19 = .ok (.ldc_w 266, 3) := by decide +kernel
theorem dX6_addChild_22 : decode cX6_addChild 22 = .ok (.invokespecial 134, 3) := by decide +kernel
theorem dX6_addChild_25 : decode cX6_addChild 25 = .ok (.athrow, 1) := by decide +kernel
theorem dX6_addChild_26 : decode cX6_addChild 26 = .ok (.aload_n 0, 1) := by decide +kernel
theorem dX6_addChild_27 : decode cX6_addChild 27 = .ok (.iload 5, 2) := by decide +kernel
theorem dX6_addChild_29 : decode cX6_addChild 29 = .ok (.invokevirtual 268, 3) := by decide +kernel
theorem dX6_addChild_32 : decode cX6_addChild 32 = .ok (.istore 6, 2) := by decide +kernel
theorem dX6_addChild_34 : decode cX6_addChild 34 = .ok (.iload 6, 2) := by decide +kernel
theorem dX6_addChild_36 : decode cX6_addChild 36 = .ok (.iconst (-1), 1) := by decide +kernel
theorem dX6_addChild_37 : decode cX6_addChild 37 = .ok (.if_icmp .ne 14, 3) := by decide +kernel
theorem dX6_addChild_40 : decode cX6_addChild 40 = .ok (.new 130, 3) := by decide +kernel
theorem dX6_addChild_43 : decode cX6_addChild 43 = .ok (.dup, 1) := by decide +kernel
theorem dX6_addChild_44 : decode cX6_addChild 44 = .ok (.ldc_w 271, 3) := by decide +kernel
theorem dX6_addChild_47 : decode cX6_addChild 47 = .ok (.invokespecial 134, 3) := by decide +kernel
theorem dX6_addChild_50 : decode cX6_addChild 50 = .ok (.athrow, 1) := by decide +kernel
theorem dX6_addChild_51 : decode cX6_addChild 51 = .ok (.aload_n 0, 1) := by decide +kernel
theorem dX6_addChild_52 : decode cX6_addChild 52 = .ok (.getfield 38, 3) := by decide +kernel
theorem dX6_addChild_55 : decode cX6_addChild 55 = .ok (.getfield 86, 3) := by decide +kernel
theorem dX6_addChild_58 : decode cX6_addChild 58 = .ok (.bipush 40, 2) := by decide +kernel
theorem dX6_addChild_60 : decode cX6_addChild 60 = .ok (.if_icmp .lt 14, 3) := by decide +kernel
theorem dX6_addChild_63 : decode cX6_addChild 63 = .ok (.new 273, 3) := by decide +kernel
theorem dX6_addChild_66 : decode cX6_addChild 66 = .ok (.dup, 1) := by decide +kernel
theorem dX6_addChild_67 : decode cX6_addChild 67 = .ok (.ldc_w 275, 3) := by decide +kernel
theorem dX6_addChild_70 : decode cX6_addChild 70 = .ok (.invokespecial 277, 3) := by decide +kernel
theorem dX6_addChild_73 : decode cX6_addChild 73 = .ok (.athrow, 1) := by decide +kernel
theorem dX6_addChild_74 : decode cX6_addChild 74 = .ok (.aload_n 0, 1) := by decide +kernel
theorem dX6_addChild_75 : decode cX6_addChild 75 = .ok (.invokevirtual 255, 3) := by decide +kernel
theorem dX6_addChild_78 : decode cX6_addChild 78 = .ok (.aload_n 0, 1) := by decide +kernel
theorem dX6_addChild_79 : decode cX6_addChild 79 = .ok (.getfield 38, 3) := by decide +kernel
theorem dX6_addChild_82 : decode cX6_addChild 82 = .ok (.iload_n 1, 1) := by decide +kernel
theorem dX6_addChild_83 : decode cX6_addChild 83 = .ok (.iload_n 2, 1) := by decide +kernel
theorem dX6_addChild_84 : decode cX6_addChild 84 = .ok (.iload_n 3, 1) := by decide +kernel
theorem dX6_addChild_85 : decode cX6_addChild 85 = .ok (.iload 4, 2) := by decide +kernel
theorem dX6_addChild_87 : decode cX6_addChild 87 = .ok (.iload 6, 2) := by decide +kernel
theorem dX6_addChild_89 : decode cX6_addChild 89 = .ok (.invokevirtual 278, 3) := by decide +kernel
theorem dX6_addChild_92 : decode cX6_addChild 92 = .ok (.istore 7, 2) := by decide +kernel
theorem dX6_addChild_94 : decode cX6_addChild 94 = .ok (.aload_n 0, 1) := by decide +kernel
theorem dX6_addChild_95 : decode cX6_addChild 95 = .ok (.getfield 38, 3) := by decide +kernel
theorem dX6_addChild_98 : decode cX6_addChild 98 = .ok (.invokevirtual 282, 3) := by decide +kernel
theorem dX6_addChild_101 : decode cX6_addChild 101 = .ok (.iload 7, 2) := by decide +kernel
theorem dX6_addChild_103 : decode cX6_addChild 103 = .ok (.ireturn, 1) := by decide +kernel
theorem dX6_withdraw_0 : decode cX6_withdraw 0 = .ok (.aload_n 0, 1) := by decide +kernel
theorem dX6_withdraw_1 : decode cX6_withdraw 1 = .ok (.iload_n 1, 1) := by decide +kernel
theorem dX6_withdraw_2 : decode cX6_withdraw 2 = .ok (.invokevirtual 188, 3) := by decide +kernel
theorem dX6_withdraw_5 : decode cX6_withdraw 5 = .ok (.aload_n 0, 1) := by decide +kernel
theorem dX6_withdraw_6 : decode cX6_withdraw 6 = .ok (.getfield 38, 3) := by decide +kernel
theorem dX6_withdraw_9 : decode cX6_withdraw 9 = .ok (.getfield 98, 3) := by decide +kernel
theorem dX6_withdraw_12 : decode cX6_withdraw 12 = .ok (.iload_n 1, 1) := by decide +kernel
theorem dX6_withdraw_13 : decode cX6_withdraw 13 = .ok (.invokestatic 199, 3) := by decide +kernel
theorem dX6_withdraw_16 : decode cX6_withdraw 16 = .ok (.ifCond .eq 14, 3) := by decide +kernel
theorem dX6_withdraw_19 : decode cX6_withdraw 19 = .ok (.new 273, 3) := by decide +kernel
theorem dX6_withdraw_22 : decode cX6_withdraw 22 = .ok (.dup, 1) := by decide +kernel
theorem dX6_withdraw_23 : decode cX6_withdraw 23 = .ok (.ldc_w 285, 3) := by decide +kernel
theorem dX6_withdraw_26 : decode cX6_withdraw 26 = .ok (.invokespecial 277, 3) := by decide +kernel
theorem dX6_withdraw_29 : decode cX6_withdraw 29 = .ok (.athrow, 1) := by decide +kernel
theorem dX6_withdraw_30 : decode cX6_withdraw 30 = .ok (.aload_n 0, 1) := by decide +kernel
theorem dX6_withdraw_31 : decode cX6_withdraw 31 = .ok (.invokevirtual 255, 3) := by decide +kernel
theorem dX6_withdraw_34 : decode cX6_withdraw 34 = .ok (.aload_n 0, 1) := by decide +kernel
theorem dX6_withdraw_35 : decode cX6_withdraw 35 = .ok (.getfield 38, 3) := by decide +kernel
theorem dX6_withdraw_38 : decode cX6_withdraw 38 = .ok (.getfield 213, 3) := by decide +kernel
theorem dX6_withdraw_41 : decode cX6_withdraw 41 = .ok (.iload_n 1, 1) := by decide +kernel
theorem dX6_withdraw_42 : decode cX6_withdraw 42 = .ok (.iaload, 1) := by decide +kernel
theorem dX6_withdraw_43 : decode cX6_withdraw 43 = .ok (.istore_n 2, 1) := by decide +kernel
theorem dX6_withdraw_44 : decode cX6_withdraw 44 = .ok (.aload_n 0, 1) := by decide +kernel
theorem dX6_withdraw_45 : decode cX6_withdraw 45 = .ok (.getfield 38, 3) := by decide +kernel
theorem dX6_withdraw_48 : decode cX6_withdraw 48 = .ok (.iload_n 1, 1) := by decide +kernel
theorem dX6_withdraw_49 : decode cX6_withdraw 49 = .ok (.invokevirtual 287, 3) := by decide +kernel
theorem dX6_withdraw_52 : decode cX6_withdraw 52 = .ok (.aload_n 0, 1) := by decide +kernel
theorem dX6_withdraw_53 : decode cX6_withdraw 53 = .ok (.getfield 38, 3) := by decide +kernel
theorem dX6_withdraw_56 : decode cX6_withdraw 56 = .ok (.invokevirtual 282, 3) := by decide +kernel
theorem dX6_withdraw_59 : decode cX6_withdraw 59 = .ok (.iload_n 2, 1) := by decide +kernel
theorem dX6_withdraw_60 : decode cX6_withdraw 60 = .ok (.ireturn, 1) := by decide +kernel
theorem dX6_giveBack_0 : decode cX6_giveBack 0 = .ok (.aload_n 0, 1) := by decide +kernel
theorem dX6_giveBack_1 : decode cX6_giveBack 1 = .ok (.iload_n 1, 1) := by decide +kernel
theorem dX6_giveBack_2 : decode cX6_giveBack 2 = .ok (.invokevirtual 188, 3) := by decide +kernel
theorem dX6_giveBack_5 : decode cX6_giveBack 5 = .ok (.aload_n 0, 1) := by decide +kernel
theorem dX6_giveBack_6 : decode cX6_giveBack 6 = .ok (.getfield 38, 3) := by decide +kernel
theorem dX6_giveBack_9 : decode cX6_giveBack 9 = .ok (.getfield 213, 3) := by decide +kernel
theorem dX6_giveBack_12 : decode cX6_giveBack 12 = .ok (.iload_n 1, 1) := by decide +kernel
theorem dX6_giveBack_13 : decode cX6_giveBack 13 = .ok (.iaload, 1) := by decide +kernel
theorem dX6_giveBack_14 : decode cX6_giveBack 14 = .ok (.istore_n 2, 1) := by decide +kernel
theorem dX6_giveBack_15 : decode cX6_giveBack 15 = .ok (.iload_n 2, 1) := by decide +kernel
theorem dX6_giveBack_16 : decode cX6_giveBack 16 = .ok (.iconst (-1), 1) := by decide +kernel
theorem dX6_giveBack_17 : decode cX6_giveBack 17 = .ok (.if_icmp .ne 14, 3) := by decide +kernel
theorem dX6_giveBack_20 : decode cX6_giveBack 20 = .ok (.new 273, 3) := by decide +kernel
theorem dX6_giveBack_23 : decode cX6_giveBack 23 = .ok (.dup, 1) := by decide +kernel
theorem dX6_giveBack_24 : decode cX6_giveBack 24 = .ok (.ldc_w 290, 3) := by decide +kernel
theorem dX6_giveBack_27 : decode cX6_giveBack 27 = .ok (.invokespecial 277, 3) := by decide +kernel
theorem dX6_giveBack_30 : decode cX6_giveBack 30 = .ok (.athrow, 1) := by decide +kernel
theorem dX6_giveBack_31 : decode cX6_giveBack 31 = .ok (.aload_n 0, 1) := by decide +kernel
theorem dX6_giveBack_32 : decode cX6_giveBack 32 = .ok (.invokevirtual 255, 3) := by decide +kernel
theorem dX6_giveBack_35 : decode cX6_giveBack 35 = .ok (.aload_n 0, 1) := by decide +kernel
theorem dX6_giveBack_36 : decode cX6_giveBack 36 = .ok (.getfield 38, 3) := by decide +kernel
theorem dX6_giveBack_39 : decode cX6_giveBack 39 = .ok (.iload_n 1, 1) := by decide +kernel
theorem dX6_giveBack_40 : decode cX6_giveBack 40 = .ok (.invokevirtual 292, 3) := by decide +kernel
theorem dX6_giveBack_43 : decode cX6_giveBack 43 = .ok (.aload_n 0, 1) := by decide +kernel
theorem dX6_giveBack_44 : decode cX6_giveBack 44 = .ok (.getfield 38, 3) := by decide +kernel
theorem dX6_giveBack_47 : decode cX6_giveBack 47 = .ok (.invokevirtual 282, 3) := by decide +kernel
theorem dX6_giveBack_50 : decode cX6_giveBack 50 = .ok (.iload_n 2, 1) := by decide +kernel
theorem dX6_giveBack_51 : decode cX6_giveBack 51 = .ok (.ireturn, 1) := by decide +kernel
theorem dX6_moveHome_0 : decode cX6_moveHome 0 = .ok (.aload_n 0, 1) := by decide +kernel
theorem dX6_moveHome_1 : decode cX6_moveHome 1 = .ok (.iload_n 1, 1) := by decide +kernel
theorem dX6_moveHome_2 : decode cX6_moveHome 2 = .ok (.invokevirtual 188, 3) := by decide +kernel
theorem dX6_moveHome_5 : decode cX6_moveHome 5 = .ok (.iload_n 2, 1) := by decide +kernel
theorem dX6_moveHome_6 : decode cX6_moveHome 6 = .ok (.iload_n 3, 1) := by decide +kernel
theorem dX6_moveHome_7 : decode cX6_moveHome 7 = .ok (.invokestatic 262, 3) := by decide +kernel
theorem dX6_moveHome_10 : decode cX6_moveHome 10 = .ok (.aload_n 0, 1) := by decide +kernel
theorem dX6_moveHome_11 : decode cX6_moveHome 11 = .ok (.invokevirtual 255, 3) := by decide +kernel
theorem dX6_moveHome_14 : decode cX6_moveHome 14 = .ok (.aload_n 0, 1) := by decide +kernel
theorem dX6_moveHome_15 : decode cX6_moveHome 15 = .ok (.getfield 46, 3) := by decide +kernel
theorem dX6_moveHome_18 : decode cX6_moveHome 18 = .ok (.aload_n 0, 1) := by decide +kernel
theorem dX6_moveHome_19 : decode cX6_moveHome 19 = .ok (.getfield 38, 3) := by decide +kernel
theorem dX6_moveHome_22 : decode cX6_moveHome 22 = .ok (.invokevirtual 295, 3) := by decide +kernel
theorem dX6_moveHome_25 : decode cX6_moveHome 25 = .ok (.aload_n 0, 1) := by decide +kernel
theorem dX6_moveHome_26 : decode cX6_moveHome 26 = .ok (.getfield 38, 3) := by decide +kernel
theorem dX6_moveHome_29 : decode cX6_moveHome 29 = .ok (.getfield 191, 3) := by decide +kernel
theorem dX6_moveHome_32 : decode cX6_moveHome 32 = .ok (.iload_n 1, 1) := by decide +kernel
theorem dX6_moveHome_33 : decode cX6_moveHome 33 = .ok (.iload_n 2, 1) := by decide +kernel
theorem dX6_moveHome_34 : decode cX6_moveHome 34 = .ok (.iastore, 1) := by decide +kernel
theorem dX6_moveHome_35 : decode cX6_moveHome 35 = .ok (.aload_n 0, 1) := by decide +kernel
theorem dX6_moveHome_36 : decode cX6_moveHome 36 = .ok (.getfield 38, 3) := by decide +kernel
theorem dX6_moveHome_39 : decode cX6_moveHome 39 = .ok (.getfield 192, 3) := by decide +kernel
theorem dX6_moveHome_42 : decode cX6_moveHome 42 = .ok (.iload_n 1, 1) := by decide +kernel
theorem dX6_moveHome_43 : decode cX6_moveHome 43 = .ok (.iload_n 3, 1) := by decide +kernel
theorem dX6_moveHome_44 : decode cX6_moveHome 44 = .ok (.iastore, 1) := by decide +kernel
theorem dX6_moveHome_45 : decode cX6_moveHome 45 = .ok (.iconst 0, 1) := by decide +kernel
theorem dX6_moveHome_46 : decode cX6_moveHome 46 = .ok (.istore 4, 2) := by decide +kernel
theorem dX6_moveHome_48 : decode cX6_moveHome 48 = .ok (.iconst 0, 1) := by decide +kernel
theorem dX6_moveHome_49 : decode cX6_moveHome 49 = .ok (.istore 5, 2) := by decide +kernel
theorem dX6_moveHome_51 : decode cX6_moveHome 51 = .ok (.iload 5, 2) := by decide +kernel
theorem dX6_moveHome_53 : decode cX6_moveHome 53 = .ok (.iconst 4, 1) := by decide +kernel
theorem dX6_moveHome_54 : decode cX6_moveHome 54 = .ok (.if_icmp .ge 57, 3) := by decide +kernel
theorem dX6_moveHome_57 : decode cX6_moveHome 57 = .ok (.aload_n 0, 1) := by decide +kernel
theorem dX6_moveHome_58 : decode cX6_moveHome 58 = .ok (.getfield 38, 3) := by decide +kernel
theorem dX6_moveHome_61 : decode cX6_moveHome 61 = .ok (.getfield 206, 3) := by decide +kernel
theorem dX6_moveHome_64 : decode cX6_moveHome 64 = .ok (.iload_n 1, 1) := by decide +kernel
theorem dX6_moveHome_65 : decode cX6_moveHome 65 = .ok (.iaload, 1) := by decide +kernel
theorem dX6_moveHome_66 : decode cX6_moveHome 66 = .ok (.iload 5, 2) := by decide +kernel
theorem dX6_moveHome_68 : decode cX6_moveHome 68 = .ok (.invokestatic 179, 3) := by decide +kernel
theorem dX6_moveHome_71 : decode cX6_moveHome 71 = .ok (.istore 6, 2) := by decide +kernel
theorem dX6_moveHome_73 : decode cX6_moveHome 73 = .ok (.iload 6, 2) := by decide +kernel
theorem dX6_moveHome_75 : decode cX6_moveHome 75 = .ok (.iconst (-1), 1) := by decide +kernel
theorem dX6_moveHome_76 : decode cX6_moveHome 76 = .ok (.if_icmp .eq 29, 3) := by decide +kernel
theorem dX6_moveHome_79 : decode cX6_moveHome 79 = .ok (.aload_n 0, 1) := by decide +kernel
theorem dX6_moveHome_80 : decode cX6_moveHome 80 = .ok (.getfield 38, 3) := by decide +kernel
theorem dX6_moveHome_83 : decode cX6_moveHome 83 = .ok (.iload_n 1, 1) := by decide +kernel
theorem dX6_moveHome_84 : decode cX6_moveHome 84 = .ok (.iload 6, 2) := by decide +kernel
theorem dX6_moveHome_86 : decode cX6_moveHome 86 = .ok (.invokevirtual 223, 3) := by decide +kernel
theorem dX6_moveHome_89 : decode cX6_moveHome 89 = .ok (.aload_n 0, 1) := by decide +kernel
theorem dX6_moveHome_90 : decode cX6_moveHome 90 = .ok (.getfield 46, 3) := by decide +kernel
theorem dX6_moveHome_93 : decode cX6_moveHome 93 = .ok (.iload_n 1, 1) := by decide +kernel
theorem dX6_moveHome_94 : decode cX6_moveHome 94 = .ok (.iload 6, 2) := by decide +kernel
theorem dX6_moveHome_96 : decode cX6_moveHome 96 = .ok (.invokevirtual 223, 3) := by decide +kernel
theorem dX6_moveHome_99 : decode cX6_moveHome 99 = .ok (.if_icmp .eq 6, 3) := by decide +kernel
theorem dX6_moveHome_102 : decode cX6_moveHome 102 = .ok (.iinc 4 1, 3) := by decide +kernel
theorem dX6_moveHome_105 : decode cX6_moveHome 105 = .ok (.iinc 5 1, 3) := by decide +kernel
theorem dX6_moveHome_108 : decode cX6_moveHome 108 = .ok (.goto (-57), 3) := by decide +kernel
theorem dX6_moveHome_111 : decode cX6_moveHome 111 = .ok (.aload_n 0, 1) := by decide +kernel
theorem dX6_moveHome_112 : decode cX6_moveHome 112 = .ok (.getfield 38, 3) := by decide +kernel
theorem dX6_moveHome_115 : decode cX6_moveHome 115 = .ok (.invokevirtual 282, 3) := by decide +kernel
theorem dX6_moveHome_118 : decode cX6_moveHome 118 = .ok (.iload 4, 2) := by decide +kernel
theorem dX6_moveHome_120 : decode cX6_moveHome 120 = .ok (.ireturn, 1) := by decide +kernel
theorem dX6_setCapacity_0 : decode cX6_setCapacity 0 = .ok (.aload_n 0, 1) := by decide +kernel
theorem dX6_setCapacity_1 : decode cX6_setCapacity 1 = .ok (.iload_n 1, 1) := by decide +kernel
theorem dX6_setCapacity_2 : decode cX6_setCapacity 2 = .ok (.invokevirtual 137, 3) := by decide +kernel
theorem dX6_setCapacity_5 : decode cX6_setCapacity 5 = .ok (.iload_n 2, 1) := by decide +kernel
theorem dX6_setCapacity_6 : decode cX6_setCapacity 6 = .ok (.invokestatic 298, 3) := by decide +kernel
theorem dX6_setCapacity_9 : decode cX6_setCapacity 9 = .ok (.aload_n 0, 1) := by decide +kernel
theorem dX6_setCapacity_10 : decode cX6_setCapacity 10 = .ok (.invokevirtual 255, 3) := by decide +kernel
theorem dX6_setCapacity_13 : decode cX6_setCapacity 13 = .ok (.aload_n 0, 1) := by decide +kernel
theorem dX6_setCapacity_14 : decode cX6_setCapacity 14 = .ok (.getfield 38, 3) := by decide +kernel
theorem dX6_setCapacity_17 : decode cX6_setCapacity 17 = .ok (.getfield 140, 3) := by decide +kernel
theorem dX6_setCapacity_20 : decode cX6_setCapacity 20 = .ok (.iload_n 1, 1) := by decide +kernel
theorem dX6_setCapacity_21 : decode cX6_setCapacity 21 = .ok (.iaload, 1) := by decide +kernel
theorem dX6_setCapacity_22 : decode cX6_setCapacity 22 = .ok (.istore_n 3, 1) := by decide +kernel
theorem dX6_setCapacity_23 : decode cX6_setCapacity 23 = .ok (.aload_n 0, 1) := by decide +kernel
theorem dX6_setCapacity_24 : decode cX6_setCapacity 24 = .ok (.getfield 38, 3) := by decide +kernel
theorem dX6_setCapacity_27 : decode cX6_setCapacity 27 = .ok (.getfield 140, 3) := by decide +kernel
theorem dX6_setCapacity_30 : decode cX6_setCapacity 30 = .ok (.iload_n 1, 1) := by decide +kernel
theorem dX6_setCapacity_31 : decode cX6_setCapacity 31 = .ok (.iload_n 2, 1) := by decide +kernel
theorem dX6_setCapacity_32 : decode cX6_setCapacity 32 = .ok (.iastore, 1) := by decide +kernel
theorem dX6_setCapacity_33 : decode cX6_setCapacity 33 = .ok (.aload_n 0, 1) := by decide +kernel
theorem dX6_setCapacity_34 : decode cX6_setCapacity 34 = .ok (.getfield 38, 3) := by decide +kernel
theorem dX6_setCapacity_37 : decode cX6_setCapacity 37 = .ok (.invokevirtual 282, 3) := by decide +kernel
theorem dX6_setCapacity_40 : decode cX6_setCapacity 40 = .ok (.iload_n 3, 1) := by decide +kernel
theorem dX6_setCapacity_41 : decode cX6_setCapacity 41 = .ok (.ireturn, 1) := by decide +kernel
theorem dX6_appeal_0 : decode cX6_appeal 0 = .ok (.aload_n 0, 1) := by decide +kernel
theorem dX6_appeal_1 : decode cX6_appeal 1 = .ok (.iload_n 1, 1) := by decide +kernel
theorem dX6_appeal_2 : decode cX6_appeal 2 = .ok (.invokevirtual 188, 3) := by decide +kernel
theorem dX6_appeal_5 : decode cX6_appeal 5 = .ok (.aload_n 0, 1) := by decide +kernel
theorem dX6_appeal_6 : decode cX6_appeal 6 = .ok (.iload_n 2, 1) := by decide +kernel
theorem dX6_appeal_7 : decode cX6_appeal 7 = .ok (.invokevirtual 137, 3) := by decide +kernel
theorem dX6_appeal_10 : decode cX6_appeal 10 = .ok (.aload_n 0, 1) := by decide +kernel
theorem dX6_appeal_11 : decode cX6_appeal 11 = .ok (.getfield 38, 3) := by decide +kernel
theorem dX6_appeal_14 : decode cX6_appeal 14 = .ok (.iload_n 1, 1) := by decide +kernel
theorem dX6_appeal_15 : decode cX6_appeal 15 = .ok (.iload_n 2, 1) := by decide +kernel
theorem dX6_appeal_16 : decode cX6_appeal 16 = .ok (.invokevirtual 241, 3) := by decide +kernel
theorem dX6_appeal_19 : decode cX6_appeal 19 = .ok (.ifCond .ne 14, 3) := by decide +kernel
theorem dX6_appeal_22 : decode cX6_appeal 22 = .ok (.new 273, 3) := by decide +kernel
theorem dX6_appeal_25 : decode cX6_appeal 25 = .ok (.dup, 1) := by decide +kernel
theorem dX6_appeal_26 : decode cX6_appeal 26 = .ok (.ldc_w 301, 3) := by decide +kernel
theorem dX6_appeal_29 : decode cX6_appeal 29 = .ok (.invokespecial 277, 3) := by decide +kernel
theorem dX6_appeal_32 : decode cX6_appeal 32 = .ok (.athrow, 1) := by decide +kernel
theorem dX6_appeal_33 : decode cX6_appeal 33 = .ok (.aload_n 0, 1) := by decide +kernel
theorem dX6_appeal_34 : decode cX6_appeal 34 = .ok (.invokevirtual 255, 3) := by decide +kernel
theorem dX6_appeal_37 : decode cX6_appeal 37 = .ok (.aload_n 0, 1) := by decide +kernel
theorem dX6_appeal_38 : decode cX6_appeal 38 = .ok (.getfield 38, 3) := by decide +kernel
theorem dX6_appeal_41 : decode cX6_appeal 41 = .ok (.iload_n 1, 1) := by decide +kernel
theorem dX6_appeal_42 : decode cX6_appeal 42 = .ok (.iload_n 2, 1) := by decide +kernel
theorem dX6_appeal_43 : decode cX6_appeal 43 = .ok (.invokevirtual 303, 3) := by decide +kernel
theorem dX6_appeal_46 : decode cX6_appeal 46 = .ok (.istore_n 3, 1) := by decide +kernel
theorem dX6_appeal_47 : decode cX6_appeal 47 = .ok (.aload_n 0, 1) := by decide +kernel
theorem dX6_appeal_48 : decode cX6_appeal 48 = .ok (.getfield 38, 3) := by decide +kernel
theorem dX6_appeal_51 : decode cX6_appeal 51 = .ok (.invokevirtual 282, 3) := by decide +kernel
theorem dX6_appeal_54 : decode cX6_appeal 54 = .ok (.iload_n 3, 1) := by decide +kernel
theorem dX6_appeal_55 : decode cX6_appeal 55 = .ok (.ireturn, 1) := by decide +kernel
theorem dX6_setLate_0 : decode cX6_setLate 0 = .ok (.aload_n 0, 1) := by decide +kernel
theorem dX6_setLate_1 : decode cX6_setLate 1 = .ok (.invokevirtual 255, 3) := by decide +kernel
theorem dX6_setLate_4 : decode cX6_setLate 4 = .ok (.aload_n 0, 1) := by decide +kernel
theorem dX6_setLate_5 : decode cX6_setLate 5 = .ok (.getfield 38, 3) := by decide +kernel
theorem dX6_setLate_8 : decode cX6_setLate 8 = .ok (.getfield 118, 3) := by decide +kernel
theorem dX6_setLate_11 : decode cX6_setLate 11 = .ok (.istore_n 2, 1) := by decide +kernel
theorem dX6_setLate_12 : decode cX6_setLate 12 = .ok (.aload_n 0, 1) := by decide +kernel
theorem dX6_setLate_13 : decode cX6_setLate 13 = .ok (.getfield 38, 3) := by decide +kernel
theorem dX6_setLate_16 : decode cX6_setLate 16 = .ok (.iload_n 1, 1) := by decide +kernel
theorem dX6_setLate_17 : decode cX6_setLate 17 = .ok (.putfield 118, 3) := by decide +kernel
theorem dX6_setLate_20 : decode cX6_setLate 20 = .ok (.aload_n 0, 1) := by decide +kernel
theorem dX6_setLate_21 : decode cX6_setLate 21 = .ok (.getfield 38, 3) := by decide +kernel
theorem dX6_setLate_24 : decode cX6_setLate 24 = .ok (.invokevirtual 282, 3) := by decide +kernel
theorem dX6_setLate_27 : decode cX6_setLate 27 = .ok (.iload_n 2, 1) := by decide +kernel
theorem dX6_setLate_28 : decode cX6_setLate 28 = .ok (.ireturn, 1) := by decide +kernel
theorem dX6_lastHolder_0 : decode cX6_lastHolder 0 = .ok (.aload_n 0, 1) := by decide +kernel
theorem dX6_lastHolder_1 : decode cX6_lastHolder 1 = .ok (.iload_n 1, 1) := by decide +kernel
theorem dX6_lastHolder_2 : decode cX6_lastHolder 2 = .ok (.invokevirtual 137, 3) := by decide +kernel
theorem dX6_lastHolder_5 : decode cX6_lastHolder 5 = .ok (.aload_n 0, 1) := by decide +kernel
theorem dX6_lastHolder_6 : decode cX6_lastHolder 6 = .ok (.getfield 38, 3) := by decide +kernel
theorem dX6_lastHolder_9 : decode cX6_lastHolder 9 = .ok (.aload_n 0, 1) := by decide +kernel
theorem dX6_lastHolder_10 : decode cX6_lastHolder 10 = .ok (.getfield 38, 3) := by decide +kernel
theorem dX6_lastHolder_13 : decode cX6_lastHolder 13 = .ok (.iload_n 1, 1) := by decide +kernel
theorem dX6_lastHolder_14 : decode cX6_lastHolder 14 = .ok (.invokevirtual 164, 3) := by decide +kernel
theorem dX6_lastHolder_17 : decode cX6_lastHolder 17 = .ok (.iload_n 1, 1) := by decide +kernel
theorem dX6_lastHolder_18 : decode cX6_lastHolder 18 = .ok (.invokevirtual 306, 3) := by decide +kernel
theorem dX6_lastHolder_21 : decode cX6_lastHolder 21 = .ok (.ireturn, 1) := by decide +kernel
theorem dX6_firstShare_0 : decode cX6_firstShare 0 = .ok (.iconst 0, 1) := by decide +kernel
theorem dX6_firstShare_1 : decode cX6_firstShare 1 = .ok (.istore_n 1, 1) := by decide +kernel
theorem dX6_firstShare_2 : decode cX6_firstShare 2 = .ok (.iconst 0, 1) := by decide +kernel
theorem dX6_firstShare_3 : decode cX6_firstShare 3 = .ok (.istore_n 2, 1) := by decide +kernel
theorem dX6_firstShare_4 : decode cX6_firstShare 4 = .ok (.iconst 0, 1) := by decide +kernel
theorem dX6_firstShare_5 : decode cX6_firstShare 5 = .ok (.istore_n 3, 1) := by decide +kernel
theorem dX6_firstShare_6 : decode cX6_firstShare 6 = .ok (.iload_n 3, 1) := by decide +kernel
theorem dX6_firstShare_7 : decode cX6_firstShare 7 = .ok (.aload_n 0, 1) := by decide +kernel
theorem dX6_firstShare_8 : decode cX6_firstShare 8 = .ok (.getfield 38, 3) := by decide +kernel
theorem dX6_firstShare_11 : decode cX6_firstShare 11 = .ok (.getfield 86, 3) := by decide +kernel
theorem dX6_firstShare_14 : decode cX6_firstShare 14 = .ok (.if_icmp .ge 45, 3) := by decide +kernel
theorem dX6_firstShare_17 : decode cX6_firstShare 17 = .ok (.aload_n 0, 1) := by decide +kernel
theorem dX6_firstShare_18 : decode cX6_firstShare 18 = .ok (.getfield 38, 3) := by decide +kernel
theorem dX6_firstShare_21 : decode cX6_firstShare 21 = .ok (.iload_n 3, 1) := by decide +kernel
theorem dX6_firstShare_22 : decode cX6_firstShare 22 = .ok (.invokevirtual 216, 3) := by decide +kernel
theorem dX6_firstShare_25 : decode cX6_firstShare 25 = .ok (.istore 4, 2) := by decide +kernel
theorem dX6_firstShare_27 : decode cX6_firstShare 27 = .ok (.iload_n 1, 1) := by decide +kernel
theorem dX6_firstShare_28 : decode cX6_firstShare 28 = .ok (.iload 4, 2) := by decide +kernel
theorem dX6_firstShare_30 : decode cX6_firstShare 30 = .ok (.ifCond .lt 7, 3) := by decide +kernel
theorem dX6_firstShare_33 : decode cX6_firstShare 33 = .ok (.iconst 1, 1) := by decide +kernel
theorem dX6_firstShare_34 : decode cX6_firstShare 34 = .ok (.goto 4, 3) := by decide +kernel
theorem dX6_firstShare_37 : decode cX6_firstShare 37 = .ok (.iconst 0, 1) := by decide +kernel
theorem dX6_firstShare_38 : decode cX6_firstShare 38 = .ok (.iadd, 1) := by decide +kernel
theorem dX6_firstShare_39 : decode cX6_firstShare 39 = .ok (.istore_n 1, 1) := by decide +kernel
theorem dX6_firstShare_40 : decode cX6_firstShare 40 = .ok (.iload_n 2, 1) := by decide +kernel
theorem dX6_firstShare_41 : decode cX6_firstShare 41 = .ok (.iload 4, 2) := by decide +kernel
theorem dX6_firstShare_43 : decode cX6_firstShare 43 = .ok (.ifCond .ne 7, 3) := by decide +kernel
theorem dX6_firstShare_46 : decode cX6_firstShare 46 = .ok (.iconst 1, 1) := by decide +kernel
theorem dX6_firstShare_47 : decode cX6_firstShare 47 = .ok (.goto 4, 3) := by decide +kernel
theorem dX6_firstShare_50 : decode cX6_firstShare 50 = .ok (.iconst 0, 1) := by decide +kernel
theorem dX6_firstShare_51 : decode cX6_firstShare 51 = .ok (.iadd, 1) := by decide +kernel
theorem dX6_firstShare_52 : decode cX6_firstShare 52 = .ok (.istore_n 2, 1) := by decide +kernel
theorem dX6_firstShare_53 : decode cX6_firstShare 53 = .ok (.iinc 3 1, 3) := by decide +kernel
theorem dX6_firstShare_56 : decode cX6_firstShare 56 = .ok (.goto (-50), 3) := by decide +kernel
theorem dX6_firstShare_59 : decode cX6_firstShare 59 = .ok (.iload_n 1, 1) := by decide +kernel
theorem dX6_firstShare_60 : decode cX6_firstShare 60 = .ok (.ifCond .ne 7, 3) := by decide +kernel
theorem dX6_firstShare_63 : decode cX6_firstShare 63 = .ok (.fconst 0, 1) := by decide +kernel
theorem dX6_firstShare_64 : decode cX6_firstShare 64 = .ok (.goto 8, 3) := by decide +kernel
theorem dX6_firstShare_67 : decode cX6_firstShare 67 = .ok (.iload_n 2, 1) := by decide +kernel
theorem dX6_firstShare_68 : decode cX6_firstShare 68 = .ok (.i2f, 1) := by decide +kernel
theorem dX6_firstShare_69 : decode cX6_firstShare 69 = .ok (.iload_n 1, 1) := by decide +kernel
theorem dX6_firstShare_70 : decode cX6_firstShare 70 = .ok (.i2f, 1) := by decide +kernel
theorem dX6_firstShare_71 : decode cX6_firstShare 71 = .ok (.fdiv, 1) := by decide +kernel
theorem dX6_firstShare_72 : decode cX6_firstShare 72 = .ok (.freturn, 1) := by decide +kernel
theorem dX6_needSchool_0 : decode cX6_needSchool 0 = .ok (.iload_n 1, 1) := by decide +kernel
theorem dX6_needSchool_1 : decode cX6_needSchool 1 = .ok (.ifCond .lt 17, 3) := by decide +kernel
theorem dX6_needSchool_4 : decode cX6_needSchool 4 = .ok (.iload_n 1, 1) := by decide +kernel
theorem dX6_needSchool_5 : decode cX6_needSchool 5 = .ok (.aload_n 0, 1) := by decide +kernel
theorem dX6_needSchool_6 : decode cX6_needSchool 6 = .ok (.getfield 38, 3) := by decide +kernel
theorem dX6_needSchool_9 : decode cX6_needSchool 9 = .ok (.getfield 42, 3) := by decide +kernel
theorem dX6_needSchool_12 : decode cX6_needSchool 12 = .ok (.getfield 92, 3) := by decide +kernel
theorem dX6_needSchool_15 : decode cX6_needSchool 15 = .ok (.if_icmp .lt 14, 3) := by decide +kernel
theorem dX6_needSchool_18 : decode cX6_needSchool 18 = .ok (.new 354, 3) := by decide +kernel
theorem dX6_needSchool_21 : decode cX6_needSchool 21 = .ok (.dup, 1) := by decide +kernel
theorem dX6_needSchool_22 : decode cX6_needSchool 22 = .ok (.ldc_w 356, 3) := by decide +kernel
theorem dX6_needSchool_25 : decode cX6_needSchool 25 = .ok (.invokespecial 358, 3) := by decide +kernel
theorem dX6_needSchool_28 : decode cX6_needSchool 28 = .ok (.athrow, 1) := by decide +kernel
theorem dX6_needSchool_29 : decode cX6_needSchool 29 = .ok (.return_, 1) := by decide +kernel
theorem dX6_needChild_0 : decode cX6_needChild 0 = .ok (.iload_n 1, 1) := by decide +kernel
theorem dX6_needChild_1 : decode cX6_needChild 1 = .ok (.ifCond .lt 14, 3) := by decide +kernel
theorem dX6_needChild_4 : decode cX6_needChild 4 = .ok (.iload_n 1, 1) := by decide +kernel
theorem dX6_needChild_5 : decode cX6_needChild 5 = .ok (.aload_n 0, 1) := by decide +kernel
theorem dX6_needChild_6 : decode cX6_needChild 6 = .ok (.getfield 38, 3) := by decide +kernel
theorem dX6_needChild_9 : decode cX6_needChild 9 = .ok (.getfield 86, 3) := by decide +kernel
theorem dX6_needChild_12 : decode cX6_needChild 12 = .ok (.if_icmp .lt 14, 3) := by decide +kernel
theorem dX6_needChild_15 : decode cX6_needChild 15 = .ok (.new 354, 3) := by decide +kernel
theorem dX6_needChild_18 : decode cX6_needChild 18 = .ok (.dup, 1) := by decide +kernel
theorem dX6_needChild_19 : decode cX6_needChild 19 = .ok (.ldc_w 359, 3) := by decide +kernel
theorem dX6_needChild_22 : decode cX6_needChild 22 = .ok (.invokespecial 358, 3) := by decide +kernel
theorem dX6_needChild_25 : decode cX6_needChild 25 = .ok (.athrow, 1) := by decide +kernel
theorem dX6_needChild_26 : decode cX6_needChild 26 = .ok (.return_, 1) := by decide +kernel
theorem dX6_needHome_0 : decode cX6_needHome 0 = .ok (.iload_n 0, 1) := by decide +kernel
theorem dX6_needHome_1 : decode cX6_needHome 1 = .ok (.ifCond .lt 19, 3) := by decide +kernel
theorem dX6_needHome_4 : decode cX6_needHome 4 = .ok (.iload_n 0, 1) := by decide +kernel
theorem dX6_needHome_5 : decode cX6_needHome 5 = .ok (.bipush 99, 2) := by decide +kernel
theorem dX6_needHome_7 : decode cX6_needHome 7 = .ok (.if_icmp .gt 13, 3) := by decide +kernel
theorem dX6_needHome_10 : decode cX6_needHome 10 = .ok (.iload_n 1, 1) := by decide +kernel
theorem dX6_needHome_11 : decode cX6_needHome 11 = .ok (.ifCond .lt 9, 3) := by decide +kernel
theorem dX6_needHome_14 : decode cX6_needHome 14 = .ok (.iload_n 1, 1) := by decide +kernel
theorem dX6_needHome_15 : decode cX6_needHome 15 = .ok (.bipush 99, 2) := by decide +kernel
theorem dX6_needHome_17 : decode cX6_needHome 17 = .ok (.if_icmp .le 14, 3) := by decide +kernel
theorem dX6_needHome_20 : decode cX6_needHome 20 = .ok (.new 130, 3) := by decide +kernel
theorem dX6_needHome_23 : decode cX6_needHome 23 = .ok (.dup, 1) := by decide +kernel
theorem dX6_needHome_24 : decode cX6_needHome 24 = .ok (.ldc_w 361, 3) := by decide +kernel
theorem dX6_needHome_27 : decode cX6_needHome 27 = .ok (.invokespecial 134, 3) := by decide +kernel
theorem dX6_needHome_30 : decode cX6_needHome 30 = .ok (.athrow, 1) := by decide +kernel
theorem dX6_needHome_31 : decode cX6_needHome 31 = .ok (.return_, 1) := by decide +kernel
theorem dX6_needCapacity_0 : decode cX6_needCapacity 0 = .ok (.iload_n 0, 1) := by decide +kernel
theorem dX6_needCapacity_1 : decode cX6_needCapacity 1 = .ok (.ifCond .lt 9, 3) := by decide +kernel
theorem dX6_needCapacity_4 : decode cX6_needCapacity 4 = .ok (.iload_n 0, 1) := by decide +kernel
theorem dX6_needCapacity_5 : decode cX6_needCapacity 5 = .ok (.bipush 40, 2) := by decide +kernel
theorem dX6_needCapacity_7 : decode cX6_needCapacity 7 = .ok (.if_icmp .le 14, 3) := by decide +kernel
theorem dX6_needCapacity_10 : decode cX6_needCapacity 10 = .ok (.new 130, 3) := by decide +kernel
theorem dX6_needCapacity_13 : decode cX6_needCapacity 13 = .ok (.dup, 1) := by decide +kernel
theorem dX6_needCapacity_14 : decode cX6_needCapacity 14 = .ok (.ldc_w 363, 3) := by decide +kernel
theorem dX6_needCapacity_17 : decode cX6_needCapacity 17 = .ok (.invokespecial 134, 3) := by decide +kernel
theorem dX6_needCapacity_20 : decode cX6_needCapacity 20 = .ok (.athrow, 1) := by decide +kernel
theorem dX6_needCapacity_21 : decode cX6_needCapacity 21 = .ok (.return_, 1) := by decide +kernel
theorem dX6_wishRow_0 : decode cX6_wishRow 0 = .ok (.iload_n 1, 1) := by decide +kernel
theorem dX6_wishRow_1 : decode cX6_wishRow 1 = .ok (.iconst 1, 1) := by decide +kernel
theorem dX6_wishRow_2 : decode cX6_wishRow 2 = .ok (.if_icmp .lt 10, 3) := by decide +kernel
theorem dX6_wishRow_5 : decode cX6_wishRow 5 = .ok (.iload_n 1, 1) := by decide +kernel
theorem dX6_wishRow_6 : decode cX6_wishRow 6 = .ok (.sipush 9999, 3) := by decide +kernel
theorem dX6_wishRow_9 : decode cX6_wishRow 9 = .ok (.if_icmp .le 5, 3) := by decide +kernel
theorem dX6_wishRow_12 : decode cX6_wishRow 12 = .ok (.iconst (-1), 1) := by decide +kernel
theorem dX6_wishRow_13 : decode cX6_wishRow 13 = .ok (.ireturn, 1) := by decide +kernel
theorem dX6_wishRow_14 : decode cX6_wishRow 14 = .ok (.iconst 0, 1) := by decide +kernel
theorem dX6_wishRow_15 : decode cX6_wishRow 15 = .ok (.istore_n 2, 1) := by decide +kernel
theorem dX6_wishRow_16 : decode cX6_wishRow 16 = .ok (.iload_n 1, 1) := by decide +kernel
theorem dX6_wishRow_17 : decode cX6_wishRow 17 = .ok (.istore_n 3, 1) := by decide +kernel
theorem dX6_wishRow_18 : decode cX6_wishRow 18 = .ok (.iload_n 3, 1) := by decide +kernel
theorem dX6_wishRow_19 : decode cX6_wishRow 19 = .ok (.ifCond .le 60, 3) := by decide +kernel
theorem dX6_wishRow_22 : decode cX6_wishRow 22 = .ok (.iload_n 3, 1) := by decide +kernel
theorem dX6_wishRow_23 : decode cX6_wishRow 23 = .ok (.bipush 10, 2) := by decide +kernel
theorem dX6_wishRow_25 : decode cX6_wishRow 25 = .ok (.irem, 1) := by decide +kernel
theorem dX6_wishRow_26 : decode cX6_wishRow 26 = .ok (.iconst 1, 1) := by decide +kernel
theorem dX6_wishRow_27 : decode cX6_wishRow 27 = .ok (.isub, 1) := by decide +kernel
theorem dX6_wishRow_28 : decode cX6_wishRow 28 = .ok (.istore 4, 2) := by decide +kernel
theorem dX6_wishRow_30 : decode cX6_wishRow 30 = .ok (.iload 4, 2) := by decide +kernel
theorem dX6_wishRow_32 : decode cX6_wishRow 32 = .ok (.ifCond .lt 28, 3) := by decide +kernel
theorem dX6_wishRow_35 : decode cX6_wishRow 35 = .ok (.iload 4, 2) := by decide +kernel
theorem dX6_wishRow_37 : decode cX6_wishRow 37 = .ok (.aload_n 0, 1) := by decide +kernel
theorem dX6_wishRow_38 : decode cX6_wishRow 38 = .ok (.getfield 38, 3) := by decide +kernel
theorem dX6_wishRow_41 : decode cX6_wishRow 41 = .ok (.getfield 42, 3) := by decide +kernel
theorem dX6_wishRow_44 : decode cX6_wishRow 44 = .ok (.getfield 92, 3) := by decide +kernel
theorem dX6_wishRow_47 : decode cX6_wishRow 47 = .ok (.if_icmp .ge 13, 3) := by decide +kernel
theorem dX6_wishRow_50 : decode cX6_wishRow 50 = .ok (.iload_n 2, 1) := by decide +kernel
theorem dX6_wishRow_51 : decode cX6_wishRow 51 = .ok (.iload 4, 2) := by decide +kernel
theorem dX6_wishRow_53 : decode cX6_wishRow 53 = .ok (.invokestatic 365, 3) := by decide +kernel
theorem dX6_wishRow_56 : decode cX6_wishRow 56 = .ok (.iconst (-1), 1) := by decide +kernel
theorem dX6_wishRow_57 : decode cX6_wishRow 57 = .ok (.if_icmp .eq 5, 3) := by decide +kernel
theorem dX6_wishRow_60 : decode cX6_wishRow 60 = .ok (.iconst (-1), 1) := by decide +kernel
theorem dX6_wishRow_61 : decode cX6_wishRow 61 = .ok (.ireturn, 1) := by decide +kernel
theorem dX6_wishRow_62 : decode cX6_wishRow 62 = .ok (.iload_n 2, 1) := by decide +kernel
theorem dX6_wishRow_63 : decode cX6_wishRow 63 = .ok (.iconst 4, 1) := by decide +kernel
theorem dX6_wishRow_64 : decode cX6_wishRow 64 = .ok (.ishl, 1) := by decide +kernel
theorem dX6_wishRow_65 : decode cX6_wishRow 65 = .ok (.iload 4, 2) := by decide +kernel
theorem dX6_wishRow_67 : decode cX6_wishRow 67 = .ok (.iconst 1, 1) := by decide +kernel
theorem dX6_wishRow_68 : decode cX6_wishRow 68 = .ok (.iadd, 1) := by decide +kernel
theorem dX6_wishRow_69 : decode cX6_wishRow 69 = .ok (.ior, 1) := by decide +kernel
theorem dX6_wishRow_70 : decode cX6_wishRow 70 = .ok (.istore_n 2, 1) := by decide +kernel
theorem dX6_wishRow_71 : decode cX6_wishRow 71 = .ok (.iload_n 3, 1) := by decide +kernel
theorem dX6_wishRow_72 : decode cX6_wishRow 72 = .ok (.bipush 10, 2) := by decide +kernel
theorem dX6_wishRow_74 : decode cX6_wishRow 74 = .ok (.idiv, 1) := by decide +kernel
theorem dX6_wishRow_75 : decode cX6_wishRow 75 = .ok (.istore_n 3, 1) := by decide +kernel
theorem dX6_wishRow_76 : decode cX6_wishRow 76 = .ok (.goto (-58), 3) := by decide +kernel
theorem dX6_wishRow_79 : decode cX6_wishRow 79 = .ok (.iload_n 2, 1) := by decide +kernel
theorem dX6_wishRow_80 : decode cX6_wishRow 80 = .ok (.ireturn, 1) := by decide +kernel
theorem dX6_remember_0 : decode cX6_remember 0 = .ok (.aload_n 0, 1) := by decide +kernel
theorem dX6_remember_1 : decode cX6_remember 1 = .ok (.getfield 59, 3) := by decide +kernel
theorem dX6_remember_4 : decode cX6_remember 4 = .ok (.aload_n 0, 1) := by decide +kernel
theorem dX6_remember_5 : decode cX6_remember 5 = .ok (.getfield 63, 3) := by decide +kernel
theorem dX6_remember_8 : decode cX6_remember 8 = .ok (.aaload, 1) := by decide +kernel
theorem dX6_remember_9 : decode cX6_remember 9 = .ok (.aload_n 0, 1) := by decide +kernel
theorem dX6_remember_10 : decode cX6_remember 10 = .ok (.getfield 38, 3) := by decide +kernel
theorem dX6_remember_13 : decode cX6_remember 13 = .ok (.invokevirtual 295, 3) := by decide +kernel
theorem dX6_remember_16 : decode cX6_remember 16 = .ok (.aload_n 0, 1) := by decide +kernel
theorem dX6_remember_17 : decode cX6_remember 17 = .ok (.aload_n 0, 1) := by decide +kernel
theorem dX6_remember_18 : decode cX6_remember 18 = .ok (.getfield 63, 3) := by decide +kernel
theorem dX6_remember_21 : decode cX6_remember 21 = .ok (.bipush 9, 2) := by decide +kernel
theorem dX6_remember_23 : decode cX6_remember 23 = .ok (.if_icmp .ne 7, 3) := by decide +kernel
theorem dX6_remember_26 : decode cX6_remember 26 = .ok (.iconst 0, 1) := by decide +kernel
theorem dX6_remember_27 : decode cX6_remember 27 = .ok (.goto 9, 3) := by decide +kernel
theorem dX6_remember_30 : decode cX6_remember 30 = .ok (.aload_n 0, 1) := by decide +kernel
theorem dX6_remember_31 : decode cX6_remember 31 = .ok (.getfield 63, 3) := by decide +kernel
theorem dX6_remember_34 : decode cX6_remember 34 = .ok (.iconst 1, 1) := by decide +kernel
theorem dX6_remember_35 : decode cX6_remember 35 = .ok (.iadd, 1) := by decide +kernel
theorem dX6_remember_36 : decode cX6_remember 36 = .ok (.putfield 63, 3) := by decide +kernel
theorem dX6_remember_39 : decode cX6_remember 39 = .ok (.aload_n 0, 1) := by decide +kernel
theorem dX6_remember_40 : decode cX6_remember 40 = .ok (.bipush 10, 2) := by decide +kernel
theorem dX6_remember_42 : decode cX6_remember 42 = .ok (.aload_n 0, 1) := by decide +kernel
theorem dX6_remember_43 : decode cX6_remember 43 = .ok (.getfield 67, 3) := by decide +kernel
theorem dX6_remember_46 : decode cX6_remember 46 = .ok (.iconst 1, 1) := by decide +kernel
theorem dX6_remember_47 : decode cX6_remember 47 = .ok (.iadd, 1) := by decide +kernel
theorem dX6_remember_48 : decode cX6_remember 48 = .ok (.invokestatic 368, 3) := by decide +kernel
theorem dX6_remember_51 : decode cX6_remember 51 = .ok (.putfield 67, 3) := by decide +kernel
theorem dX6_remember_54 : decode cX6_remember 54 = .ok (.return_, 1) := by decide +kernel
theorem dX6_isIn_0 : decode cX6_isIn 0 = .ok (.lload_n 0, 1) := by decide +kernel
theorem dX6_isIn_1 : decode cX6_isIn 1 = .ok (.iload_n 2, 1) := by decide +kernel
theorem dX6_isIn_2 : decode cX6_isIn 2 = .ok (.lshr, 1) := by decide +kernel
theorem dX6_isIn_3 : decode cX6_isIn 3 = .ok (.lconst 1, 1) := by decide +kernel
theorem dX6_isIn_4 : decode cX6_isIn 4 = .ok (.land, 1) := by decide +kernel
theorem dX6_isIn_5 : decode cX6_isIn 5 = .ok (.lconst 0, 1) := by decide +kernel
theorem dX6_isIn_6 : decode cX6_isIn 6 = .ok (.lcmp, 1) := by decide +kernel
theorem dX6_isIn_7 : decode cX6_isIn 7 = .ok (.ifCond .eq 7, 3) := by decide +kernel
theorem dX6_isIn_10 : decode cX6_isIn 10 = .ok (.iconst 1, 1) := by decide +kernel
theorem dX6_isIn_11 : decode cX6_isIn 11 = .ok (.goto 4, 3) := by decide +kernel
theorem dX6_isIn_14 : decode cX6_isIn 14 = .ok (.iconst 0, 1) := by decide +kernel
theorem dX6_isIn_15 : decode cX6_isIn 15 = .ok (.ireturn, 1) := by decide +kernel
theorem dX6_rowEntry_0 : decode cX6_rowEntry 0 = .ok (.iload_n 1, 1) := by decide +kernel
theorem dX6_rowEntry_1 : decode cX6_rowEntry 1 = .ok (.ifCond .lt 8, 3) := by decide +kernel
theorem dX6_rowEntry_4 : decode cX6_rowEntry 4 = .ok (.iload_n 1, 1) := by decide +kernel
theorem dX6_rowEntry_5 : decode cX6_rowEntry 5 = .ok (.iconst 4, 1) := by decide +kernel
theorem dX6_rowEntry_6 : decode cX6_rowEntry 6 = .ok (.if_icmp .lt 7, 3) := by decide +kernel
theorem dX6_rowEntry_9 : decode cX6_rowEntry 9 = .ok (.iconst (-1), 1) := by decide +kernel
theorem dX6_rowEntry_10 : decode cX6_rowEntry 10 = .ok (.goto 13, 3) := by decide +kernel
theorem dX6_rowEntry_13 : decode cX6_rowEntry 13 = .ok (.iload_n 0, 1) := by decide +kernel
theorem dX6_rowEntry_14 : decode cX6_rowEntry 14 = .ok (.iconst 4, 1) := by decide +kernel
theorem dX6_rowEntry_15 : decode cX6_rowEntry 15 = .ok (.iload_n 1, 1) := by decide +kernel
theorem dX6_rowEntry_16 : decode cX6_rowEntry 16 = .ok (.imul, 1) := by decide +kernel
theorem dX6_rowEntry_17 : decode cX6_rowEntry 17 = .ok (.ishr, 1) := by decide +kernel
theorem dX6_rowEntry_18 : decode cX6_rowEntry 18 = .ok (.bipush 15, 2) := by decide +kernel
theorem dX6_rowEntry_20 : decode cX6_rowEntry 20 = .ok (.iand, 1) := by decide +kernel
theorem dX6_rowEntry_21 : decode cX6_rowEntry 21 = .ok (.iconst 1, 1) := by decide +kernel
theorem dX6_rowEntry_22 : decode cX6_rowEntry 22 = .ok (.isub, 1) := by decide +kernel
theorem dX6_rowEntry_23 : decode cX6_rowEntry 23 = .ok (.ireturn, 1) := by decide +kernel
theorem dX6_rowLength_0 : decode cX6_rowLength 0 = .ok (.iconst 0, 1) := by decide +kernel
theorem dX6_rowLength_1 : decode cX6_rowLength 1 = .ok (.istore_n 1, 1) := by decide +kernel
theorem dX6_rowLength_2 : decode cX6_rowLength 2 = .ok (.iconst 0, 1) := by decide +kernel
theorem dX6_rowLength_3 : decode cX6_rowLength 3 = .ok (.istore_n 2, 1) := by decide +kernel
theorem dX6_rowLength_4 : decode cX6_rowLength 4 = .ok (.iload_n 2, 1) := by decide +kernel
theorem dX6_rowLength_5 : decode cX6_rowLength 5 = .ok (.iconst 4, 1) := by decide +kernel
theorem dX6_rowLength_6 : decode cX6_rowLength 6 = .ok (.if_icmp .ge 26, 3) := by decide +kernel
theorem dX6_rowLength_9 : decode cX6_rowLength 9 = .ok (.iload_n 1, 1) := by decide +kernel
theorem dX6_rowLength_10 : decode cX6_rowLength 10 = .ok (.iload_n 0, 1) := by decide +kernel
theorem dX6_rowLength_11 : decode cX6_rowLength 11 = .ok (.iload_n 2, 1) := by decide +kernel
theorem dX6_rowLength_12 : decode cX6_rowLength 12 = .ok (.invokestatic 179, 3) := by decide +kernel
theorem dX6_rowLength_15 : decode cX6_rowLength 15 = .ok (.iconst (-1), 1) := by decide +kernel
theorem dX6_rowLength_16 : decode cX6_rowLength 16 = .ok (.if_icmp .ne 7, 3) := by decide +kernel
theorem dX6_rowLength_19 : decode cX6_rowLength 19 = .ok (.iconst 0, 1) := by decide +kernel
theorem dX6_rowLength_20 : decode cX6_rowLength 20 = .ok (.goto 4, 3) := by decide +kernel
theorem dX6_rowLength_23 : decode cX6_rowLength 23 = .ok (.iconst 1, 1) := by decide +kernel
theorem dX6_rowLength_24 : decode cX6_rowLength 24 = .ok (.iadd, 1) := by decide +kernel
theorem dX6_rowLength_25 : decode cX6_rowLength 25 = .ok (.istore_n 1, 1) := by decide +kernel
theorem dX6_rowLength_26 : decode cX6_rowLength 26 = .ok (.iinc 2 1, 3) := by decide +kernel
theorem dX6_rowLength_29 : decode cX6_rowLength 29 = .ok (.goto (-25), 3) := by decide +kernel
theorem dX6_rowLength_32 : decode cX6_rowLength 32 = .ok (.iload_n 1, 1) := by decide +kernel
theorem dX6_rowLength_33 : decode cX6_rowLength 33 = .ok (.ireturn, 1) := by decide +kernel
theorem dX6_rowIndex_0 : decode cX6_rowIndex 0 = .ok (.iconst 0, 1) := by decide +kernel
theorem dX6_rowIndex_1 : decode cX6_rowIndex 1 = .ok (.istore_n 2, 1) := by decide +kernel
theorem dX6_rowIndex_2 : decode cX6_rowIndex 2 = .ok (.iload_n 2, 1) := by decide +kernel
theorem dX6_rowIndex_3 : decode cX6_rowIndex 3 = .ok (.iconst 4, 1) := by decide +kernel
theorem dX6_rowIndex_4 : decode cX6_rowIndex 4 = .ok (.if_icmp .ge 30, 3) := by decide +kernel
theorem dX6_rowIndex_7 : decode cX6_rowIndex 7 = .ok (.iload_n 1, 1) := by decide +kernel
theorem dX6_rowIndex_8 : decode cX6_rowIndex 8 = .ok (.iconst (-1), 1) := by decide +kernel
theorem dX6_rowIndex_9 : decode cX6_rowIndex 9 = .ok (.if_icmp .eq 19, 3) := by decide +kernel
theorem dX6_rowIndex_12 : decode cX6_rowIndex 12 = .ok (.iload_n 0, 1) := by decide +kernel
theorem dX6_rowIndex_13 : decode cX6_rowIndex 13 = .ok (.iconst 4, 1) := by decide +kernel
theorem dX6_rowIndex_14 : decode cX6_rowIndex 14 = .ok (.iload_n 2, 1) := by decide +kernel
theorem dX6_rowIndex_15 : decode cX6_rowIndex 15 = .ok (.imul, 1) := by decide +kernel
theorem dX6_rowIndex_16 : decode cX6_rowIndex 16 = .ok (.ishr, 1) := by decide +kernel
theorem dX6_rowIndex_17 : decode cX6_rowIndex 17 = .ok (.bipush 15, 2) := by decide +kernel
theorem dX6_rowIndex_19 : decode cX6_rowIndex 19 = .ok (.iand, 1) := by decide +kernel
theorem dX6_rowIndex_20 : decode cX6_rowIndex 20 = .ok (.iload_n 1, 1) := by decide +kernel
theorem dX6_rowIndex_21 : decode cX6_rowIndex 21 = .ok (.iconst 1, 1) := by decide +kernel
theorem dX6_rowIndex_22 : decode cX6_rowIndex 22 = .ok (.iadd, 1) := by decide +kernel
theorem dX6_rowIndex_23 : decode cX6_rowIndex 23 = .ok (.if_icmp .ne 5, 3) := by decide +kernel
theorem dX6_rowIndex_26 : decode cX6_rowIndex 26 = .ok (.iload_n 2, 1) := by decide +kernel
theorem dX6_rowIndex_27 : decode cX6_rowIndex 27 = .ok (.ireturn, 1) := by decide +kernel
theorem dX6_rowIndex_28 : decode cX6_rowIndex 28 = .ok (.iinc 2 1, 3) := by decide +kernel
theorem dX6_rowIndex_31 : decode cX6_rowIndex 31 = .ok (.goto (-29), 3) := by decide +kernel
theorem dX6_rowIndex_34 : decode cX6_rowIndex 34 = .ok (.iconst (-1), 1) := by decide +kernel
theorem dX6_rowIndex_35 : decode cX6_rowIndex 35 = .ok (.ireturn, 1) := by decide +kernel
