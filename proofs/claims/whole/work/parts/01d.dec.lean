theorem dX6_init_0 : decode cX6_init 0 = .ok (.aload_n 0, 1) := by decide +kernel
theorem dX6_init_1 : decode cX6_init 1 = .ok (.invokespecial 3, 3) := by decide +kernel
theorem dX6_init_4 : decode cX6_init 4 = .ok (.aload_n 0, 1) := by decide +kernel
theorem dX6_init_5 : decode cX6_init 5 = .ok (.new 9, 3) := by decide +kernel
theorem dX6_init_8 : decode cX6_init 8 = .ok (.dup, 1) := by decide +kernel
theorem dX6_init_9 : decode cX6_init 9 = .ok (.invokespecial 11, 3) := by decide +kernel
theorem dX6_init_12 : decode cX6_init 12 = .ok (.putfield 12, 3) := by decide +kernel
theorem dX6_init_15 : decode cX6_init 15 = .ok (.aload_n 0, 1) := by decide +kernel
theorem dX6_init_16 : decode cX6_init 16 = .ok (.new 16, 3) := by decide +kernel
theorem dX6_init_19 : decode cX6_init 19 = .ok (.dup, 1) := by decide +kernel
theorem dX6_init_20 : decode cX6_init 20 = .ok (.invokespecial 18, 3) := by decide +kernel
theorem dX6_init_23 : decode cX6_init 23 = .ok (.putfield 19, 3) := by decide +kernel
theorem dX6_init_26 : decode cX6_init 26 = .ok (.aload_n 0, 1) := by decide +kernel
theorem dX6_init_27 : decode cX6_init 27 = .ok (.new 23, 3) := by decide +kernel
theorem dX6_init_30 : decode cX6_init 30 = .ok (.dup, 1) := by decide +kernel
theorem dX6_init_31 : decode cX6_init 31 = .ok (.invokespecial 25, 3) := by decide +kernel
theorem dX6_init_34 : decode cX6_init 34 = .ok (.putfield 26, 3) := by decide +kernel
theorem dX6_init_37 : decode cX6_init 37 = .ok (.aload_n 0, 1) := by decide +kernel
theorem dX6_init_38 : decode cX6_init 38 = .ok (.new 30, 3) := by decide +kernel
theorem dX6_init_41 : decode cX6_init 41 = .ok (.dup, 1) := by decide +kernel
theorem dX6_init_42 : decode cX6_init 42 = .ok (.new 32, 3) := by decide +kernel
theorem dX6_init_45 : decode cX6_init 45 = .ok (.dup, 1) := by decide +kernel
theorem dX6_init_46 : decode cX6_init 46 = .ok (.invokespecial 34, 3) := by decide +kernel
theorem dX6_init_49 : decode cX6_init 49 = .ok (.invokespecial 35, 3) := by decide +kernel
theorem dX6_init_52 : decode cX6_init 52 = .ok (.putfield 38, 3) := by decide +kernel
theorem dX6_init_55 : decode cX6_init 55 = .ok (.aload_n 0, 1) := by decide +kernel
theorem dX6_init_56 : decode cX6_init 56 = .ok (.new 30, 3) := by decide +kernel
theorem dX6_init_59 : decode cX6_init 59 = .ok (.dup, 1) := by decide +kernel
theorem dX6_init_60 : decode cX6_init 60 = .ok (.aload_n 0, 1) := by decide +kernel
theorem dX6_init_61 : decode cX6_init 61 = .ok (.getfield 38, 3) := by decide +kernel
theorem dX6_init_64 : decode cX6_init 64 = .ok (.getfield 42, 3) := by decide +kernel
theorem dX6_init_67 : decode cX6_init 67 = .ok (.invokespecial 35, 3) := by decide +kernel
theorem dX6_init_70 : decode cX6_init 70 = .ok (.putfield 46, 3) := by decide +kernel
theorem dX6_init_73 : decode cX6_init 73 = .ok (.aload_n 0, 1) := by decide +kernel
theorem dX6_init_74 : decode cX6_init 74 = .ok (.new 30, 3) := by decide +kernel
theorem dX6_init_77 : decode cX6_init 77 = .ok (.dup, 1) := by decide +kernel
theorem dX6_init_78 : decode cX6_init 78 = .ok (.aload_n 0, 1) := by decide +kernel
theorem dX6_init_79 : decode cX6_init 79 = .ok (.getfield 38, 3) := by decide +kernel
theorem dX6_init_82 : decode cX6_init 82 = .ok (.getfield 42, 3) := by decide +kernel
theorem dX6_init_85 : decode cX6_init 85 = .ok (.invokespecial 35, 3) := by decide +kernel
theorem dX6_init_88 : decode cX6_init 88 = .ok (.putfield 49, 3) := by decide +kernel
theorem dX6_init_91 : decode cX6_init 91 = .ok (.aload_n 0, 1) := by decide +kernel
theorem dX6_init_92 : decode cX6_init 92 = .ok (.new 30, 3) := by decide +kernel
theorem dX6_init_95 : decode cX6_init 95 = .ok (.dup, 1) := by decide +kernel
theorem dX6_init_96 : decode cX6_init 96 = .ok (.aload_n 0, 1) := by decide +kernel
theorem dX6_init_97 : decode cX6_init 97 = .ok (.getfield 38, 3) := by decide +kernel
theorem dX6_init_100 : decode cX6_init 100 = .ok (.getfield 42, 3) := by decide +kernel
theorem dX6_init_103 : decode cX6_init 103 = .ok (.invokespecial 35, 3) := by decide +kernel
theorem dX6_init_106 : decode cX6_init 106 = .ok (.putfield 52, 3) := by decide +kernel
theorem dX6_init_109 : decode cX6_init 109 = .ok (.aload_n 0, 1) := by decide +kernel
theorem dX6_init_110 : decode cX6_init 110 = .ok (.iconst 0, 1) := by decide +kernel
theorem dX6_init_111 : decode cX6_init 111 = .ok (.putfield 55, 3) := by decide +kernel
theorem dX6_init_114 : decode cX6_init 114 = .ok (.aload_n 0, 1) := by decide +kernel
theorem dX6_init_115 : decode cX6_init 115 = .ok (.bipush 10, 2) := by decide +kernel
theorem dX6_init_117 : decode cX6_init 117 = .ok (.anewarray 30, 3) := by decide +kernel
theorem dX6_init_120 : decode cX6_init 120 = .ok (.putfield 59, 3) := by decide +kernel
theorem dX6_init_123 : decode cX6_init 123 = .ok (.aload_n 0, 1) := by decide +kernel
theorem dX6_init_124 : decode cX6_init 124 = .ok (.iconst 0, 1) := by decide +kernel
theorem dX6_init_125 : decode cX6_init 125 = .ok (.putfield 63, 3) := by decide +kernel
theorem dX6_init_128 : decode cX6_init 128 = .ok (.aload_n 0, 1) := by decide +kernel
theorem dX6_init_129 : decode cX6_init 129 = .ok (.iconst 0, 1) := by decide +kernel
theorem dX6_init_130 : decode cX6_init 130 = .ok (.putfield 67, 3) := by decide +kernel
theorem dX6_init_133 : decode cX6_init 133 = .ok (.iconst 0, 1) := by decide +kernel
theorem dX6_init_134 : decode cX6_init 134 = .ok (.istore_n 1, 1) := by decide +kernel
theorem dX6_init_135 : decode cX6_init 135 = .ok (.iload_n 1, 1) := by decide +kernel
theorem dX6_init_136 : decode cX6_init 136 = .ok (.bipush 10, 2) := by decide +kernel
theorem dX6_init_138 : decode cX6_init 138 = .ok (.if_icmp .ge 29, 3) := by decide +kernel
theorem dX6_init_141 : decode cX6_init 141 = .ok (.aload_n 0, 1) := by decide +kernel
theorem dX6_init_142 : decode cX6_init 142 = .ok (.getfield 59, 3) := by decide +kernel
theorem dX6_init_145 : decode cX6_init 145 = .ok (.iload_n 1, 1) := by decide +kernel
theorem dX6_init_146 : decode cX6_init 146 = .ok (.new 30, 3) := by decide +kernel
theorem dX6_init_149 : decode cX6_init 149 = .ok (.dup, 1) := by decide +kernel
theorem dX6_init_150 : decode cX6_init 150 = .ok (.aload_n 0, 1) := by decide +kernel
theorem dX6_init_151 : decode cX6_init 151 = .ok (.getfield 38, 3) := by decide +kernel
theorem dX6_init_154 : decode cX6_init 154 = .ok (.getfield 42, 3) := by decide +kernel
theorem dX6_init_157 : decode cX6_init 157 = .ok (.invokespecial 35, 3) := by decide +kernel
theorem dX6_init_160 : decode cX6_init 160 = .ok (.aastore, 1) := by decide +kernel
theorem dX6_init_161 : decode cX6_init 161 = .ok (.iinc 1 1, 3) := by decide +kernel
theorem dX6_init_164 : decode cX6_init 164 = .ok (.goto (-29), 3) := by decide +kernel
theorem dX6_init_167 : decode cX6_init 167 = .ok (.return_, 1) := by decide +kernel
theorem dX6_appendInput_0 : decode cX6_appendInput 0 = .ok (.aload_n 0, 1) := by decide +kernel
theorem dX6_appendInput_1 : decode cX6_appendInput 1 = .ok (.getfield 12, 3) := by decide +kernel
theorem dX6_appendInput_4 : decode cX6_appendInput 4 = .ok (.getfield 70, 3) := by decide +kernel
theorem dX6_appendInput_7 : decode cX6_appendInput 7 = .ok (.bipush 20, 2) := by decide +kernel
theorem dX6_appendInput_9 : decode cX6_appendInput 9 = .ok (.iadd, 1) := by decide +kernel
theorem dX6_appendInput_10 : decode cX6_appendInput 10 = .ok (.sipush 900, 3) := by decide +kernel
theorem dX6_appendInput_13 : decode cX6_appendInput 13 = .ok (.if_icmp .le 5, 3) := by decide +kernel
theorem dX6_appendInput_16 : decode cX6_appendInput 16 = .ok (.iconst (-1), 1) := by decide +kernel
theorem dX6_appendInput_17 : decode cX6_appendInput 17 = .ok (.ireturn, 1) := by decide +kernel
theorem dX6_appendInput_18 : decode cX6_appendInput 18 = .ok (.aload_n 0, 1) := by decide +kernel
theorem dX6_appendInput_19 : decode cX6_appendInput 19 = .ok (.getfield 12, 3) := by decide +kernel
theorem dX6_appendInput_22 : decode cX6_appendInput 22 = .ok (.iload_n 1, 1) := by decide +kernel
theorem dX6_appendInput_23 : decode cX6_appendInput 23 = .ok (.invokevirtual 73, 3) := by decide +kernel
theorem dX6_appendInput_26 : decode cX6_appendInput 26 = .ok (.aload_n 0, 1) := by decide +kernel
theorem dX6_appendInput_27 : decode cX6_appendInput 27 = .ok (.getfield 12, 3) := by decide +kernel
theorem dX6_appendInput_30 : decode cX6_appendInput 30 = .ok (.iload_n 2, 1) := by decide +kernel
theorem dX6_appendInput_31 : decode cX6_appendInput 31 = .ok (.invokevirtual 73, 3) := by decide +kernel
theorem dX6_appendInput_34 : decode cX6_appendInput 34 = .ok (.aload_n 0, 1) := by decide +kernel
theorem dX6_appendInput_35 : decode cX6_appendInput 35 = .ok (.getfield 12, 3) := by decide +kernel
theorem dX6_appendInput_38 : decode cX6_appendInput 38 = .ok (.iload_n 3, 1) := by decide +kernel
theorem dX6_appendInput_39 : decode cX6_appendInput 39 = .ok (.invokevirtual 73, 3) := by decide +kernel
theorem dX6_appendInput_42 : decode cX6_appendInput 42 = .ok (.aload_n 0, 1) := by decide +kernel
theorem dX6_appendInput_43 : decode cX6_appendInput 43 = .ok (.getfield 12, 3) := by decide +kernel
theorem dX6_appendInput_46 : decode cX6_appendInput 46 = .ok (.iload 4, 2) := by decide +kernel
theorem dX6_appendInput_48 : decode cX6_appendInput 48 = .ok (.invokevirtual 73, 3) := by decide +kernel
theorem dX6_appendInput_51 : decode cX6_appendInput 51 = .ok (.aload_n 0, 1) := by decide +kernel
theorem dX6_appendInput_52 : decode cX6_appendInput 52 = .ok (.getfield 12, 3) := by decide +kernel
theorem dX6_appendInput_55 : decode cX6_appendInput 55 = .ok (.iload 5, 2) := by decide +kernel
theorem dX6_appendInput_57 : decode cX6_appendInput 57 = .ok (.invokevirtual 73, 3) := by decide +kernel
theorem dX6_appendInput_60 : decode cX6_appendInput 60 = .ok (.aload_n 0, 1) := by decide +kernel
theorem dX6_appendInput_61 : decode cX6_appendInput 61 = .ok (.getfield 12, 3) := by decide +kernel
theorem dX6_appendInput_64 : decode cX6_appendInput 64 = .ok (.getfield 70, 3) := by decide +kernel
theorem dX6_appendInput_67 : decode cX6_appendInput 67 = .ok (.ireturn, 1) := by decide +kernel
theorem dX6_truncateInput_0 : decode cX6_truncateInput 0 = .ok (.iload_n 1, 1) := by decide +kernel
theorem dX6_truncateInput_1 : decode cX6_truncateInput 1 = .ok (.ifCond .lt 14, 3) := by decide +kernel
theorem dX6_truncateInput_4 : decode cX6_truncateInput 4 = .ok (.iload_n 1, 1) := by decide +kernel
theorem dX6_truncateInput_5 : decode cX6_truncateInput 5 = .ok (.aload_n 0, 1) := by decide +kernel
theorem dX6_truncateInput_6 : decode cX6_truncateInput 6 = .ok (.getfield 12, 3) := by decide +kernel
theorem dX6_truncateInput_9 : decode cX6_truncateInput 9 = .ok (.getfield 70, 3) := by decide +kernel
theorem dX6_truncateInput_12 : decode cX6_truncateInput 12 = .ok (.if_icmp .le 5, 3) := by decide +kernel
theorem dX6_truncateInput_15 : decode cX6_truncateInput 15 = .ok (.iconst 0, 1) := by decide +kernel
theorem dX6_truncateInput_16 : decode cX6_truncateInput 16 = .ok (.ireturn, 1) := by decide +kernel
theorem dX6_truncateInput_17 : decode cX6_truncateInput 17 = .ok (.aload_n 0, 1) := by decide +kernel
theorem dX6_truncateInput_18 : decode cX6_truncateInput 18 = .ok (.getfield 12, 3) := by decide +kernel
theorem dX6_truncateInput_21 : decode cX6_truncateInput 21 = .ok (.iload_n 1, 1) := by decide +kernel
theorem dX6_truncateInput_22 : decode cX6_truncateInput 22 = .ok (.putfield 70, 3) := by decide +kernel
theorem dX6_truncateInput_25 : decode cX6_truncateInput 25 = .ok (.iconst 1, 1) := by decide +kernel
theorem dX6_truncateInput_26 : decode cX6_truncateInput 26 = .ok (.ireturn, 1) := by decide +kernel
theorem dX6_loadOffice_0 : decode cX6_loadOffice 0 = .ok (.aload_n 0, 1) := by decide +kernel
theorem dX6_loadOffice_1 : decode cX6_loadOffice 1 = .ok (.getfield 12, 3) := by decide +kernel
theorem dX6_loadOffice_4 : decode cX6_loadOffice 4 = .ok (.invokevirtual 77, 3) := by decide +kernel
theorem dX6_loadOffice_7 : decode cX6_loadOffice 7 = .ok (.aload_n 0, 1) := by decide +kernel
theorem dX6_loadOffice_8 : decode cX6_loadOffice 8 = .ok (.getfield 12, 3) := by decide +kernel
theorem dX6_loadOffice_11 : decode cX6_loadOffice 11 = .ok (.iconst 0, 1) := by decide +kernel
theorem dX6_loadOffice_12 : decode cX6_loadOffice 12 = .ok (.putfield 70, 3) := by decide +kernel
theorem dX6_loadOffice_15 : decode cX6_loadOffice 15 = .ok (.aload_n 0, 1) := by decide +kernel
theorem dX6_loadOffice_16 : decode cX6_loadOffice 16 = .ok (.getfield 12, 3) := by decide +kernel
theorem dX6_loadOffice_19 : decode cX6_loadOffice 19 = .ok (.getfield 80, 3) := by decide +kernel
theorem dX6_loadOffice_22 : decode cX6_loadOffice 22 = .ok (.ifCond .eq 5, 3) := by decide +kernel
theorem dX6_loadOffice_25 : decode cX6_loadOffice 25 = .ok (.iconst (-1), 1) := by decide +kernel
theorem dX6_loadOffice_26 : decode cX6_loadOffice 26 = .ok (.ireturn, 1) := by decide +kernel
theorem dX6_loadOffice_27 : decode cX6_loadOffice 27 = .ok (.aload_n 0, 1) := by decide +kernel
theorem dX6_loadOffice_28 : decode cX6_loadOffice 28 = .ok (.getfield 38, 3) := by decide +kernel
theorem dX6_loadOffice_31 : decode cX6_loadOffice 31 = .ok (.astore_n 1, 1) := by decide +kernel
theorem dX6_loadOffice_32 : decode cX6_loadOffice 32 = .ok (.aload_n 0, 1) := by decide +kernel
theorem dX6_loadOffice_33 : decode cX6_loadOffice 33 = .ok (.aload_n 0, 1) := by decide +kernel
theorem dX6_loadOffice_34 : decode cX6_loadOffice 34 = .ok (.getfield 12, 3) := by decide +kernel
theorem dX6_loadOffice_37 : decode cX6_loadOffice 37 = .ok (.getfield 83, 3) := by decide +kernel
theorem dX6_loadOffice_40 : decode cX6_loadOffice 40 = .ok (.putfield 38, 3) := by decide +kernel
theorem dX6_loadOffice_43 : decode cX6_loadOffice 43 = .ok (.aload_n 0, 1) := by decide +kernel
theorem dX6_loadOffice_44 : decode cX6_loadOffice 44 = .ok (.getfield 12, 3) := by decide +kernel
theorem dX6_loadOffice_47 : decode cX6_loadOffice 47 = .ok (.aload_n 1, 1) := by decide +kernel
theorem dX6_loadOffice_48 : decode cX6_loadOffice 48 = .ok (.putfield 83, 3) := by decide +kernel
theorem dX6_loadOffice_51 : decode cX6_loadOffice 51 = .ok (.aload_n 0, 1) := by decide +kernel
theorem dX6_loadOffice_52 : decode cX6_loadOffice 52 = .ok (.iconst 0, 1) := by decide +kernel
theorem dX6_loadOffice_53 : decode cX6_loadOffice 53 = .ok (.putfield 55, 3) := by decide +kernel
theorem dX6_loadOffice_56 : decode cX6_loadOffice 56 = .ok (.aload_n 0, 1) := by decide +kernel
theorem dX6_loadOffice_57 : decode cX6_loadOffice 57 = .ok (.iconst 0, 1) := by decide +kernel
theorem dX6_loadOffice_58 : decode cX6_loadOffice 58 = .ok (.putfield 67, 3) := by decide +kernel
theorem dX6_loadOffice_61 : decode cX6_loadOffice 61 = .ok (.aload_n 0, 1) := by decide +kernel
theorem dX6_loadOffice_62 : decode cX6_loadOffice 62 = .ok (.getfield 38, 3) := by decide +kernel
theorem dX6_loadOffice_65 : decode cX6_loadOffice 65 = .ok (.getfield 86, 3) := by decide +kernel
theorem dX6_loadOffice_68 : decode cX6_loadOffice 68 = .ok (.ireturn, 1) := by decide +kernel
theorem dX6_errorCode_0 : decode cX6_errorCode 0 = .ok (.aload_n 0, 1) := by decide +kernel
theorem dX6_errorCode_1 : decode cX6_errorCode 1 = .ok (.getfield 12, 3) := by decide +kernel
theorem dX6_errorCode_4 : decode cX6_errorCode 4 = .ok (.getfield 80, 3) := by decide +kernel
theorem dX6_errorCode_7 : decode cX6_errorCode 7 = .ok (.ireturn, 1) := by decide +kernel
theorem dX6_errorOffset_0 : decode cX6_errorOffset 0 = .ok (.aload_n 0, 1) := by decide +kernel
theorem dX6_errorOffset_1 : decode cX6_errorOffset 1 = .ok (.getfield 12, 3) := by decide +kernel
theorem dX6_errorOffset_4 : decode cX6_errorOffset 4 = .ok (.getfield 89, 3) := by decide +kernel
theorem dX6_errorOffset_7 : decode cX6_errorOffset 7 = .ok (.ireturn, 1) := by decide +kernel
theorem dX6_count_0 : decode cX6_count 0 = .ok (.iload_n 1, 1) := by decide +kernel
theorem dX6_count_1 : decode cX6_count 1 = .ok (.tableswitch 190 0 11 #[63, 74, 82, 93, 104, 115, 126, 137, 153, 169, 177, 185], 63) := by decide +kernel
theorem dX6_count_64 : decode cX6_count 64 = .ok (.aload_n 0, 1) := by decide +kernel
theorem dX6_count_65 : decode cX6_count 65 = .ok (.getfield 38, 3) := by decide +kernel
theorem dX6_count_68 : decode cX6_count 68 = .ok (.getfield 42, 3) := by decide +kernel
theorem dX6_count_71 : decode cX6_count 71 = .ok (.getfield 92, 3) := by decide +kernel
theorem dX6_count_74 : decode cX6_count 74 = .ok (.ireturn, 1) := by decide +kernel
theorem dX6_count_75 : decode cX6_count 75 = .ok (.aload_n 0, 1) := by decide +kernel
theorem dX6_count_76 : decode cX6_count 76 = .ok (.getfield 38, 3) := by decide +kernel
theorem dX6_count_79 : decode cX6_count 79 = .ok (.getfield 86, 3) := by decide +kernel
theorem dX6_count_82 : decode cX6_count 82 = .ok (.ireturn, 1) := by decide +kernel
theorem dX6_count_83 : decode cX6_count 83 = .ok (.aload_n 0, 1) := by decide +kernel
theorem dX6_count_84 : decode cX6_count 84 = .ok (.getfield 38, 3) := by decide +kernel
theorem dX6_count_87 : decode cX6_count 87 = .ok (.getfield 42, 3) := by decide +kernel
theorem dX6_count_90 : decode cX6_count 90 = .ok (.getfield 95, 3) := by decide +kernel
theorem dX6_count_93 : decode cX6_count 93 = .ok (.ireturn, 1) := by decide +kernel
theorem dX6_count_94 : decode cX6_count 94 = .ok (.aload_n 0, 1) := by decide +kernel
theorem dX6_count_95 : decode cX6_count 95 = .ok (.getfield 38, 3) := by decide +kernel
theorem dX6_count_98 : decode cX6_count 98 = .ok (.getfield 98, 3) := by decide +kernel
theorem dX6_count_101 : decode cX6_count 101 = .ok (.invokestatic 102, 3) := by decide +kernel
theorem dX6_count_104 : decode cX6_count 104 = .ok (.ireturn, 1) := by decide +kernel
theorem dX6_count_105 : decode cX6_count 105 = .ok (.aload_n 0, 1) := by decide +kernel
theorem dX6_count_106 : decode cX6_count 106 = .ok (.getfield 38, 3) := by decide +kernel
theorem dX6_count_109 : decode cX6_count 109 = .ok (.invokevirtual 108, 3) := by decide +kernel
theorem dX6_count_112 : decode cX6_count 112 = .ok (.invokestatic 102, 3) := by decide +kernel
theorem dX6_count_115 : decode cX6_count 115 = .ok (.ireturn, 1) := by decide +kernel
theorem dX6_count_116 : decode cX6_count 116 = .ok (.aload_n 0, 1) := by decide +kernel
theorem dX6_count_117 : decode cX6_count 117 = .ok (.getfield 38, 3) := by decide +kernel
theorem dX6_count_120 : decode cX6_count 120 = .ok (.getfield 112, 3) := by decide +kernel
theorem dX6_count_123 : decode cX6_count 123 = .ok (.invokestatic 102, 3) := by decide +kernel
theorem dX6_count_126 : decode cX6_count 126 = .ok (.ireturn, 1) := by decide +kernel
theorem dX6_count_127 : decode cX6_count 127 = .ok (.aload_n 0, 1) := by decide +kernel
theorem dX6_count_128 : decode cX6_count 128 = .ok (.getfield 38, 3) := by decide +kernel
theorem dX6_count_131 : decode cX6_count 131 = .ok (.getfield 42, 3) := by decide +kernel
theorem dX6_count_134 : decode cX6_count 134 = .ok (.getfield 115, 3) := by decide +kernel
theorem dX6_count_137 : decode cX6_count 137 = .ok (.ireturn, 1) := by decide +kernel
theorem dX6_count_138 : decode cX6_count 138 = .ok (.aload_n 0, 1) := by decide +kernel
theorem dX6_count_139 : decode cX6_count 139 = .ok (.getfield 38, 3) := by decide +kernel
theorem dX6_count_142 : decode cX6_count 142 = .ok (.getfield 118, 3) := by decide +kernel
theorem dX6_count_145 : decode cX6_count 145 = .ok (.ifCond .eq 7, 3) := by decide +kernel
theorem dX6_count_148 : decode cX6_count 148 = .ok (.iconst 1, 1) := by decide +kernel
theorem dX6_count_149 : decode cX6_count 149 = .ok (.goto 4, 3) := by decide +kernel
theorem dX6_count_152 : decode cX6_count 152 = .ok (.iconst 0, 1) := by decide +kernel
theorem dX6_count_153 : decode cX6_count 153 = .ok (.ireturn, 1) := by decide +kernel
theorem dX6_count_154 : decode cX6_count 154 = .ok (.aload_n 0, 1) := by decide +kernel
theorem dX6_count_155 : decode cX6_count 155 = .ok (.getfield 38, 3) := by decide +kernel
theorem dX6_count_158 : decode cX6_count 158 = .ok (.getfield 121, 3) := by decide +kernel
theorem dX6_count_161 : decode cX6_count 161 = .ok (.ifCond .eq 7, 3) := by decide +kernel
theorem dX6_count_164 : decode cX6_count 164 = .ok (.iconst 1, 1) := by decide +kernel
theorem dX6_count_165 : decode cX6_count 165 = .ok (.goto 4, 3) := by decide +kernel
theorem dX6_count_168 : decode cX6_count 168 = .ok (.iconst 0, 1) := by decide +kernel
theorem dX6_count_169 : decode cX6_count 169 = .ok (.ireturn, 1) := by decide +kernel
theorem dX6_count_170 : decode cX6_count 170 = .ok (.aload_n 0, 1) := by decide +kernel
theorem dX6_count_171 : decode cX6_count 171 = .ok (.getfield 38, 3) := by decide +kernel
theorem dX6_count_174 : decode cX6_count 174 = .ok (.getfield 124, 3) := by decide +kernel
theorem dX6_count_177 : decode cX6_count 177 = .ok (.ireturn, 1) := by decide +kernel
theorem dX6_count_178 : decode cX6_count 178 = .ok (.aload_n 0, 1) := by decide +kernel
theorem dX6_count_179 : decode cX6_count 179 = .ok (.getfield 38, 3) := by decide +kernel
theorem dX6_count_182 : decode cX6_count 182 = .ok (.getfield 127, 3) := by decide +kernel
theorem dX6_count_185 : decode cX6_count 185 = .ok (.ireturn, 1) := by decide +kernel
theorem dX6_count_186 : decode cX6_count 186 = .ok (.aload_n 0, 1) := by decide +kernel
theorem dX6_count_187 : decode cX6_count 187 = .ok (.getfield 67, 3) := by decide +kernel
theorem dX6_count_190 : decode cX6_count 190 = .ok (.ireturn, 1) := by decide +kernel
theorem dX6_count_191 : decode cX6_count 191 = .ok (.new 130, 3) := by decide +kernel
theorem dX6_count_194 : decode cX6_count 194 = .ok (.dup, 1) := by decide +kernel
theorem dX6_count_195 : decode cX6_count 195 = .ok (.ldc 132, 2) := by decide +kernel
theorem dX6_count_197 : decode cX6_count 197 = .ok (.invokespecial 134, 3) := by decide +kernel
theorem dX6_count_200 : decode cX6_count 200 = .ok (.athrow, 1) := by decide +kernel
theorem dX6_school_0 : decode cX6_school 0 = .ok (.aload_n 0, 1) := by decide +kernel
theorem dX6_school_1 : decode cX6_school 1 = .ok (.iload_n 1, 1) := by decide +kernel
theorem dX6_school_2 : decode cX6_school 2 = .ok (.invokevirtual 137, 3) := by decide +kernel
theorem dX6_school_5 : decode cX6_school 5 = .ok (.aload_n 0, 1) := by decide +kernel
theorem dX6_school_6 : decode cX6_school 6 = .ok (.getfield 38, 3) := by decide +kernel
theorem dX6_school_9 : decode cX6_school 9 = .ok (.getfield 42, 3) := by decide +kernel
theorem dX6_school_12 : decode cX6_school 12 = .ok (.astore_n 3, 1) := by decide +kernel
theorem dX6_school_13 : decode cX6_school 13 = .ok (.iload_n 2, 1) := by decide +kernel
theorem dX6_school_14 : decode cX6_school 14 = .ok (.tableswitch 163 0 9 #[54, 64, 71, 78, 88, 102, 109, 121, 141, 151], 54) := by decide +kernel
theorem dX6_school_68 : decode cX6_school 68 = .ok (.aload_n 0, 1) := by decide +kernel
theorem dX6_school_69 : decode cX6_school 69 = .ok (.getfield 38, 3) := by decide +kernel
theorem dX6_school_72 : decode cX6_school 72 = .ok (.getfield 140, 3) := by decide +kernel
theorem dX6_school_75 : decode cX6_school 75 = .ok (.iload_n 1, 1) := by decide +kernel
theorem dX6_school_76 : decode cX6_school 76 = .ok (.iaload, 1) := by decide +kernel
theorem dX6_school_77 : decode cX6_school 77 = .ok (.ireturn, 1) := by decide +kernel
theorem dX6_school_78 : decode cX6_school 78 = .ok (.aload_n 3, 1) := by decide +kernel
theorem dX6_school_79 : decode cX6_school 79 = .ok (.getfield 144, 3) := by decide +kernel
theorem dX6_school_82 : decode cX6_school 82 = .ok (.iload_n 1, 1) := by decide +kernel
theorem dX6_school_83 : decode cX6_school 83 = .ok (.iaload, 1) := by decide +kernel
theorem dX6_school_84 : decode cX6_school 84 = .ok (.ireturn, 1) := by decide +kernel
theorem dX6_school_85 : decode cX6_school 85 = .ok (.aload_n 3, 1) := by decide +kernel
theorem dX6_school_86 : decode cX6_school 86 = .ok (.getfield 147, 3) := by decide +kernel
theorem dX6_school_89 : decode cX6_school 89 = .ok (.iload_n 1, 1) := by decide +kernel
theorem dX6_school_90 : decode cX6_school 90 = .ok (.iaload, 1) := by decide +kernel
theorem dX6_school_91 : decode cX6_school 91 = .ok (.ireturn, 1) := by decide +kernel
theorem dX6_school_92 : decode cX6_school 92 = .ok (.aload_n 3, 1) := by decide +kernel
theorem dX6_school_93 : decode cX6_school 93 = .ok (.getfield 150, 3) := by decide +kernel
theorem dX6_school_96 : decode cX6_school 96 = .ok (.iload_n 1, 1) := by decide +kernel
theorem dX6_school_97 : decode cX6_school 97 = .ok (.iaload, 1) := by decide +kernel
theorem dX6_school_98 : decode cX6_school 98 = .ok (.invokestatic 153, 3) := by decide +kernel
theorem dX6_school_101 : decode cX6_school 101 = .ok (.ireturn, 1) := by decide +kernel
theorem dX6_school_102 : decode cX6_school 102 = .ok (.aload_n 3, 1) := by decide +kernel
theorem dX6_school_103 : decode cX6_school 103 = .ok (.iload_n 1, 1) := by decide +kernel
theorem dX6_school_104 : decode cX6_school 104 = .ok (.invokevirtual 157, 3) := by decide +kernel
theorem dX6_school_107 : decode cX6_school 107 = .ok (.ifCond .eq 7, 3) := by decide +kernel
theorem dX6_school_110 : decode cX6_school 110 = .ok (.iconst 1, 1) := by decide +kernel
theorem dX6_school_111 : decode cX6_school 111 = .ok (.goto 4, 3) := by decide +kernel
theorem dX6_school_114 : decode cX6_school 114 = .ok (.iconst 0, 1) := by decide +kernel
theorem dX6_school_115 : decode cX6_school 115 = .ok (.ireturn, 1) := by decide +kernel
theorem dX6_school_116 : decode cX6_school 116 = .ok (.aload_n 3, 1) := by decide +kernel
theorem dX6_school_117 : decode cX6_school 117 = .ok (.getfield 161, 3) := by decide +kernel
theorem dX6_school_120 : decode cX6_school 120 = .ok (.iload_n 1, 1) := by decide +kernel
theorem dX6_school_121 : decode cX6_school 121 = .ok (.iaload, 1) := by decide +kernel
theorem dX6_school_122 : decode cX6_school 122 = .ok (.ireturn, 1) := by decide +kernel
theorem dX6_school_123 : decode cX6_school 123 = .ok (.aload_n 0, 1) := by decide +kernel
theorem dX6_school_124 : decode cX6_school 124 = .ok (.getfield 38, 3) := by decide +kernel
theorem dX6_school_127 : decode cX6_school 127 = .ok (.iload_n 1, 1) := by decide +kernel
theorem dX6_school_128 : decode cX6_school 128 = .ok (.invokevirtual 164, 3) := by decide +kernel
theorem dX6_school_131 : decode cX6_school 131 = .ok (.invokestatic 102, 3) := by decide +kernel
theorem dX6_school_134 : decode cX6_school 134 = .ok (.ireturn, 1) := by decide +kernel
theorem dX6_school_135 : decode cX6_school 135 = .ok (.aload_n 0, 1) := by decide +kernel
theorem dX6_school_136 : decode cX6_school 136 = .ok (.getfield 38, 3) := by decide +kernel
theorem dX6_school_139 : decode cX6_school 139 = .ok (.iload_n 1, 1) := by decide +kernel
theorem dX6_school_140 : decode cX6_school 140 = .ok (.invokevirtual 164, 3) := by decide +kernel
theorem dX6_school_143 : decode cX6_school 143 = .ok (.aload_n 0, 1) := by decide +kernel
theorem dX6_school_144 : decode cX6_school 144 = .ok (.getfield 38, 3) := by decide +kernel
theorem dX6_school_147 : decode cX6_school 147 = .ok (.getfield 168, 3) := by decide +kernel
theorem dX6_school_150 : decode cX6_school 150 = .ok (.land, 1) := by decide +kernel
theorem dX6_school_151 : decode cX6_school 151 = .ok (.invokestatic 102, 3) := by decide +kernel
theorem dX6_school_154 : decode cX6_school 154 = .ok (.ireturn, 1) := by decide +kernel
theorem dX6_school_155 : decode cX6_school 155 = .ok (.aload_n 0, 1) := by decide +kernel
theorem dX6_school_156 : decode cX6_school 156 = .ok (.getfield 38, 3) := by decide +kernel
theorem dX6_school_159 : decode cX6_school 159 = .ok (.getfield 171, 3) := by decide +kernel
theorem dX6_school_162 : decode cX6_school 162 = .ok (.iload_n 1, 1) := by decide +kernel
theorem dX6_school_163 : decode cX6_school 163 = .ok (.iaload, 1) := by decide +kernel
theorem dX6_school_164 : decode cX6_school 164 = .ok (.ireturn, 1) := by decide +kernel
theorem dX6_school_165 : decode cX6_school 165 = .ok (.aload_n 0, 1) := by decide +kernel
theorem dX6_school_166 : decode cX6_school 166 = .ok (.getfield 38, 3) := by decide +kernel
theorem dX6_school_169 : decode cX6_school 169 = .ok (.iload_n 1, 1) := by decide +kernel
theorem dX6_school_170 : decode cX6_school 170 = .ok (.invokevirtual 174, 3) := by decide +kernel
theorem dX6_school_173 : decode cX6_school 173 = .ok (.invokestatic 102, 3) := by decide +kernel
theorem dX6_school_176 : decode cX6_school 176 = .ok (.ireturn, 1) := by decide +kernel
theorem dX6_school_177 : decode cX6_school 177 = .ok (.new 130, 3) := by decide +kernel
theorem dX6_school_180 : decode cX6_school 180 = .ok (.dup, 1) := by decide +kernel
theorem dX6_school_181 : decode cX6_school 181 = .ok (.ldc 177, 2) := by decide +kernel
theorem dX6_school_183 : decode cX6_school 183 = .ok (.invokespecial 134, 3) := by decide +kernel
theorem dX6_school_186 : decode cX6_school 186 = .ok (.athrow, 1) := by decide +kernel
theorem dX6_rule_0 : decode cX6_rule 0 = .ok (.aload_n 0, 1) := by decide +kernel
theorem dX6_rule_1 : decode cX6_rule 1 = .ok (.iload_n 1, 1) := by decide +kernel
theorem dX6_rule_2 : decode cX6_rule 2 = .ok (.invokevirtual 137, 3) := by decide +kernel
theorem dX6_rule_5 : decode cX6_rule 5 = .ok (.aload_n 0, 1) := by decide +kernel
theorem dX6_rule_6 : decode cX6_rule 6 = .ok (.getfield 38, 3) := by decide +kernel
theorem dX6_rule_9 : decode cX6_rule 9 = .ok (.getfield 42, 3) := by decide +kernel
theorem dX6_rule_12 : decode cX6_rule 12 = .ok (.getfield 150, 3) := by decide +kernel
theorem dX6_rule_15 : decode cX6_rule 15 = .ok (.iload_n 1, 1) := by decide +kernel
theorem dX6_rule_16 : decode cX6_rule 16 = .ok (.iaload, 1) := by decide +kernel
theorem dX6_rule_17 : decode cX6_rule 17 = .ok (.iload_n 2, 1) := by decide +kernel
theorem dX6_rule_18 : decode cX6_rule 18 = .ok (.invokestatic 179, 3) := by decide +kernel
theorem dX6_rule_21 : decode cX6_rule 21 = .ok (.istore_n 3, 1) := by decide +kernel
theorem dX6_rule_22 : decode cX6_rule 22 = .ok (.iload_n 3, 1) := by decide +kernel
theorem dX6_rule_23 : decode cX6_rule 23 = .ok (.iconst (-1), 1) := by decide +kernel
theorem dX6_rule_24 : decode cX6_rule 24 = .ok (.if_icmp .ne 13, 3) := by decide +kernel
theorem dX6_rule_27 : decode cX6_rule 27 = .ok (.new 183, 3) := by decide +kernel
theorem dX6_rule_30 : decode cX6_rule 30 = .ok (.dup, 1) := by decide +kernel
theorem dX6_rule_31 : decode cX6_rule 31 = .ok (.ldc 185, 2) := by decide +kernel
theorem dX6_rule_33 : decode cX6_rule 33 = .ok (.invokespecial 187, 3) := by decide +kernel
theorem dX6_rule_36 : decode cX6_rule 36 = .ok (.athrow, 1) := by decide +kernel
theorem dX6_rule_37 : decode cX6_rule 37 = .ok (.iload_n 3, 1) := by decide +kernel
theorem dX6_rule_38 : decode cX6_rule 38 = .ok (.ireturn, 1) := by decide +kernel
theorem dX6_child_0 : decode cX6_child 0 = .ok (.aload_n 0, 1) := by decide +kernel
theorem dX6_child_1 : decode cX6_child 1 = .ok (.iload_n 1, 1) := by decide +kernel
theorem dX6_child_2 : decode cX6_child 2 = .ok (.invokevirtual 188, 3) := by decide +kernel
theorem dX6_child_5 : decode cX6_child 5 = .ok (.iload_n 2, 1) := by decide +kernel
theorem dX6_child_6 : decode cX6_child 6 = .ok (.tableswitch 183 0 8 #[50, 60, 70, 80, 100, 110, 123, 143, 163], 50) := by decide +kernel
theorem dX6_child_56 : decode cX6_child 56 = .ok (.aload_n 0, 1) := by decide +kernel
theorem dX6_child_57 : decode cX6_child 57 = .ok (.getfield 38, 3) := by decide +kernel
theorem dX6_child_60 : decode cX6_child 60 = .ok (.getfield 191, 3) := by decide +kernel
theorem dX6_child_63 : decode cX6_child 63 = .ok (.iload_n 1, 1) := by decide +kernel
theorem dX6_child_64 : decode cX6_child 64 = .ok (.iaload, 1) := by decide +kernel
theorem dX6_child_65 : decode cX6_child 65 = .ok (.ireturn, 1) := by decide +kernel
theorem dX6_child_66 : decode cX6_child 66 = .ok (.aload_n 0, 1) := by decide +kernel
theorem dX6_child_67 : decode cX6_child 67 = .ok (.getfield 38, 3) := by decide +kernel
theorem dX6_child_70 : decode cX6_child 70 = .ok (.getfield 192, 3) := by decide +kernel
theorem dX6_child_73 : decode cX6_child 73 = .ok (.iload_n 1, 1) := by decide +kernel
theorem dX6_child_74 : decode cX6_child 74 = .ok (.iaload, 1) := by decide +kernel
theorem dX6_child_75 : decode cX6_child 75 = .ok (.ireturn, 1) := by decide +kernel
theorem dX6_child_76 : decode cX6_child 76 = .ok (.aload_n 0, 1) := by decide +kernel
theorem dX6_child_77 : decode cX6_child 77 = .ok (.getfield 38, 3) := by decide +kernel
theorem dX6_child_80 : decode cX6_child 80 = .ok (.getfield 193, 3) := by decide +kernel
theorem dX6_child_83 : decode cX6_child 83 = .ok (.iload_n 1, 1) := by decide +kernel
theorem dX6_child_84 : decode cX6_child 84 = .ok (.iaload, 1) := by decide +kernel
theorem dX6_child_85 : decode cX6_child 85 = .ok (.ireturn, 1) := by decide +kernel
theorem dX6_child_86 : decode cX6_child 86 = .ok (.aload_n 0, 1) := by decide +kernel
theorem dX6_child_87 : decode cX6_child 87 = .ok (.getfield 38, 3) := by decide +kernel
theorem dX6_child_90 : decode cX6_child 90 = .ok (.getfield 196, 3) := by decide +kernel
theorem dX6_child_93 : decode cX6_child 93 = .ok (.iload_n 1, 1) := by decide +kernel
theorem dX6_child_94 : decode cX6_child 94 = .ok (.invokestatic 199, 3) := by decide +kernel
theorem dX6_child_97 : decode cX6_child 97 = .ok (.ifCond .eq 7, 3) := by decide +kernel
theorem dX6_child_100 : decode cX6_child 100 = .ok (.iconst 1, 1) := by decide +kernel
theorem dX6_child_101 : decode cX6_child 101 = .ok (.goto 4, 3) := by decide +kernel
theorem dX6_child_104 : decode cX6_child 104 = .ok (.iconst 0, 1) := by decide +kernel
theorem dX6_child_105 : decode cX6_child 105 = .ok (.ireturn, 1) := by decide +kernel
theorem dX6_child_106 : decode cX6_child 106 = .ok (.aload_n 0, 1) := by decide +kernel
theorem dX6_child_107 : decode cX6_child 107 = .ok (.getfield 38, 3) := by decide +kernel
theorem dX6_child_110 : decode cX6_child 110 = .ok (.getfield 203, 3) := by decide +kernel
theorem dX6_child_113 : decode cX6_child 113 = .ok (.iload_n 1, 1) := by decide +kernel
theorem dX6_child_114 : decode cX6_child 114 = .ok (.iaload, 1) := by decide +kernel
theorem dX6_child_115 : decode cX6_child 115 = .ok (.ireturn, 1) := by decide +kernel
theorem dX6_child_116 : decode cX6_child 116 = .ok (.aload_n 0, 1) := by decide +kernel
theorem dX6_child_117 : decode cX6_child 117 = .ok (.getfield 38, 3) := by decide +kernel
theorem dX6_child_120 : decode cX6_child 120 = .ok (.getfield 206, 3) := by decide +kernel
theorem dX6_child_123 : decode cX6_child 123 = .ok (.iload_n 1, 1) := by decide +kernel
theorem dX6_child_124 : decode cX6_child 124 = .ok (.iaload, 1) := by decide +kernel
theorem dX6_child_125 : decode cX6_child 125 = .ok (.invokestatic 153, 3) := by decide +kernel
theorem dX6_child_128 : decode cX6_child 128 = .ok (.ireturn, 1) := by decide +kernel
theorem dX6_child_129 : decode cX6_child 129 = .ok (.aload_n 0, 1) := by decide +kernel
theorem dX6_child_130 : decode cX6_child 130 = .ok (.getfield 38, 3) := by decide +kernel
theorem dX6_child_133 : decode cX6_child 133 = .ok (.getfield 112, 3) := by decide +kernel
theorem dX6_child_136 : decode cX6_child 136 = .ok (.iload_n 1, 1) := by decide +kernel
theorem dX6_child_137 : decode cX6_child 137 = .ok (.invokestatic 199, 3) := by decide +kernel
theorem dX6_child_140 : decode cX6_child 140 = .ok (.ifCond .eq 7, 3) := by decide +kernel
theorem dX6_child_143 : decode cX6_child 143 = .ok (.iconst 1, 1) := by decide +kernel
theorem dX6_child_144 : decode cX6_child 144 = .ok (.goto 4, 3) := by decide +kernel
theorem dX6_child_147 : decode cX6_child 147 = .ok (.iconst 0, 1) := by decide +kernel
theorem dX6_child_148 : decode cX6_child 148 = .ok (.ireturn, 1) := by decide +kernel
theorem dX6_child_149 : decode cX6_child 149 = .ok (.aload_n 0, 1) := by decide +kernel
theorem dX6_child_150 : decode cX6_child 150 = .ok (.getfield 38, 3) := by decide +kernel
theorem dX6_child_153 : decode cX6_child 153 = .ok (.getfield 98, 3) := by decide +kernel
theorem dX6_child_156 : decode cX6_child 156 = .ok (.iload_n 1, 1) := by decide +kernel
theorem dX6_child_157 : decode cX6_child 157 = .ok (.invokestatic 199, 3) := by decide +kernel
theorem dX6_child_160 : decode cX6_child 160 = .ok (.ifCond .eq 7, 3) := by decide +kernel
theorem dX6_child_163 : decode cX6_child 163 = .ok (.iconst 1, 1) := by decide +kernel
theorem dX6_child_164 : decode cX6_child 164 = .ok (.goto 4, 3) := by decide +kernel
theorem dX6_child_167 : decode cX6_child 167 = .ok (.iconst 0, 1) := by decide +kernel
theorem dX6_child_168 : decode cX6_child 168 = .ok (.ireturn, 1) := by decide +kernel
theorem dX6_child_169 : decode cX6_child 169 = .ok (.aload_n 0, 1) := by decide +kernel
theorem dX6_child_170 : decode cX6_child 170 = .ok (.getfield 38, 3) := by decide +kernel
theorem dX6_child_173 : decode cX6_child 173 = .ok (.getfield 168, 3) := by decide +kernel
theorem dX6_child_176 : decode cX6_child 176 = .ok (.iload_n 1, 1) := by decide +kernel
theorem dX6_child_177 : decode cX6_child 177 = .ok (.invokestatic 199, 3) := by decide +kernel
theorem dX6_child_180 : decode cX6_child 180 = .ok (.ifCond .eq 7, 3) := by decide +kernel
theorem dX6_child_183 : decode cX6_child 183 = .ok (.iconst 1, 1) := by decide +kernel
theorem dX6_child_184 : decode cX6_child 184 = .ok (.goto 4, 3) := by decide +kernel
theorem dX6_child_187 : decode cX6_child 187 = .ok (.iconst 0, 1) := by decide +kernel
theorem dX6_child_188 : decode cX6_child 188 = .ok (.ireturn, 1) := by decide +kernel
theorem dX6_child_189 : decode cX6_child 189 = .ok (.new 130, 3) := by decide +kernel
theorem dX6_child_192 : decode cX6_child 192 = .ok (.dup, 1) := by decide +kernel
theorem dX6_child_193 : decode cX6_child 193 = .ok (.ldc 209, 2) := by decide +kernel
theorem dX6_child_195 : decode cX6_child 195 = .ok (.invokespecial 134, 3) := by decide +kernel
theorem dX6_child_198 : decode cX6_child 198 = .ok (.athrow, 1) := by decide +kernel
theorem dX6_preference_0 : decode cX6_preference 0 = .ok (.aload_n 0, 1) := by decide +kernel
theorem dX6_preference_1 : decode cX6_preference 1 = .ok (.iload_n 1, 1) := by decide +kernel
theorem dX6_preference_2 : decode cX6_preference 2 = .ok (.invokevirtual 188, 3) := by decide +kernel
theorem dX6_preference_5 : decode cX6_preference 5 = .ok (.aload_n 0, 1) := by decide +kernel
theorem dX6_preference_6 : decode cX6_preference 6 = .ok (.getfield 38, 3) := by decide +kernel
theorem dX6_preference_9 : decode cX6_preference 9 = .ok (.getfield 206, 3) := by decide +kernel
theorem dX6_preference_12 : decode cX6_preference 12 = .ok (.iload_n 1, 1) := by decide +kernel
theorem dX6_preference_13 : decode cX6_preference 13 = .ok (.iaload, 1) := by decide +kernel
theorem dX6_preference_14 : decode cX6_preference 14 = .ok (.iload_n 2, 1) := by decide +kernel
theorem dX6_preference_15 : decode cX6_preference 15 = .ok (.invokestatic 179, 3) := by decide +kernel
theorem dX6_preference_18 : decode cX6_preference 18 = .ok (.istore_n 3, 1) := by decide +kernel
theorem dX6_preference_19 : decode cX6_preference 19 = .ok (.iload_n 3, 1) := by decide +kernel
theorem dX6_preference_20 : decode cX6_preference 20 = .ok (.iconst (-1), 1) := by decide +kernel
theorem dX6_preference_21 : decode cX6_preference 21 = .ok (.if_icmp .ne 13, 3) := by decide +kernel
theorem dX6_preference_24 : decode cX6_preference 24 = .ok (.new 183, 3) := by decide +kernel
theorem dX6_preference_27 : decode cX6_preference 27 = .ok (.dup, 1) := by decide +kernel
theorem dX6_preference_28 : decode cX6_preference 28 = .ok (.ldc 211, 2) := by decide +kernel
theorem dX6_preference_30 : decode cX6_preference 30 = .ok (.invokespecial 187, 3) := by decide +kernel
theorem dX6_preference_33 : decode cX6_preference 33 = .ok (.athrow, 1) := by decide +kernel
theorem dX6_preference_34 : decode cX6_preference 34 = .ok (.iload_n 3, 1) := by decide +kernel
theorem dX6_preference_35 : decode cX6_preference 35 = .ok (.ireturn, 1) := by decide +kernel
theorem dX6_placeOf_0 : decode cX6_placeOf 0 = .ok (.aload_n 0, 1) := by decide +kernel
theorem dX6_placeOf_1 : decode cX6_placeOf 1 = .ok (.iload_n 1, 1) := by decide +kernel
theorem dX6_placeOf_2 : decode cX6_placeOf 2 = .ok (.invokevirtual 188, 3) := by decide +kernel
theorem dX6_placeOf_5 : decode cX6_placeOf 5 = .ok (.aload_n 0, 1) := by decide +kernel
theorem dX6_placeOf_6 : decode cX6_placeOf 6 = .ok (.getfield 38, 3) := by decide +kernel
theorem dX6_placeOf_9 : decode cX6_placeOf 9 = .ok (.getfield 213, 3) := by decide +kernel
theorem dX6_placeOf_12 : decode cX6_placeOf 12 = .ok (.iload_n 1, 1) := by decide +kernel
theorem dX6_placeOf_13 : decode cX6_placeOf 13 = .ok (.iaload, 1) := by decide +kernel
theorem dX6_placeOf_14 : decode cX6_placeOf 14 = .ok (.ireturn, 1) := by decide +kernel
theorem dX6_gotPreference_0 : decode cX6_gotPreference 0 = .ok (.aload_n 0, 1) := by decide +kernel
theorem dX6_gotPreference_1 : decode cX6_gotPreference 1 = .ok (.iload_n 1, 1) := by decide +kernel
theorem dX6_gotPreference_2 : decode cX6_gotPreference 2 = .ok (.invokevirtual 188, 3) := by decide +kernel
theorem dX6_gotPreference_5 : decode cX6_gotPreference 5 = .ok (.aload_n 0, 1) := by decide +kernel
theorem dX6_gotPreference_6 : decode cX6_gotPreference 6 = .ok (.getfield 38, 3) := by decide +kernel
theorem dX6_gotPreference_9 : decode cX6_gotPreference 9 = .ok (.iload_n 1, 1) := by decide +kernel
theorem dX6_gotPreference_10 : decode cX6_gotPreference 10 = .ok (.invokevirtual 216, 3) := by decide +kernel
theorem dX6_gotPreference_13 : decode cX6_gotPreference 13 = .ok (.ireturn, 1) := by decide +kernel
theorem dX6_meets_0 : decode cX6_meets 0 = .ok (.aload_n 0, 1) := by decide +kernel
theorem dX6_meets_1 : decode cX6_meets 1 = .ok (.iload_n 1, 1) := by decide +kernel
theorem dX6_meets_2 : decode cX6_meets 2 = .ok (.invokevirtual 188, 3) := by decide +kernel
theorem dX6_meets_5 : decode cX6_meets 5 = .ok (.aload_n 0, 1) := by decide +kernel
theorem dX6_meets_6 : decode cX6_meets 6 = .ok (.iload_n 2, 1) := by decide +kernel
theorem dX6_meets_7 : decode cX6_meets 7 = .ok (.invokevirtual 137, 3) := by decide +kernel
theorem dX6_meets_10 : decode cX6_meets 10 = .ok (.iload_n 3, 1) := by decide +kernel
theorem dX6_meets_11 : decode cX6_meets 11 = .ok (.ifCond .lt 8, 3) := by decide +kernel
theorem dX6_meets_14 : decode cX6_meets 14 = .ok (.iload_n 3, 1) := by decide +kernel
theorem dX6_meets_15 : decode cX6_meets 15 = .ok (.iconst 3, 1) := by decide +kernel
theorem dX6_meets_16 : decode cX6_meets 16 = .ok (.if_icmp .lt 13, 3) := by decide +kernel
theorem dX6_meets_19 : decode cX6_meets 19 = .ok (.new 130, 3) := by decide +kernel
theorem dX6_meets_22 : decode cX6_meets 22 = .ok (.dup, 1) := by decide +kernel
theorem dX6_meets_23 : decode cX6_meets 23 = .ok (.ldc 185, 2) := by decide +kernel
theorem dX6_meets_25 : decode cX6_meets 25 = .ok (.invokespecial 134, 3) := by decide +kernel
theorem dX6_meets_28 : decode cX6_meets 28 = .ok (.athrow, 1) := by decide +kernel
theorem dX6_meets_29 : decode cX6_meets 29 = .ok (.aload_n 0, 1) := by decide +kernel
theorem dX6_meets_30 : decode cX6_meets 30 = .ok (.getfield 38, 3) := by decide +kernel
theorem dX6_meets_33 : decode cX6_meets 33 = .ok (.iload_n 1, 1) := by decide +kernel
theorem dX6_meets_34 : decode cX6_meets 34 = .ok (.iload_n 2, 1) := by decide +kernel
theorem dX6_meets_35 : decode cX6_meets 35 = .ok (.iload_n 3, 1) := by decide +kernel
theorem dX6_meets_36 : decode cX6_meets 36 = .ok (.invokevirtual 219, 3) := by decide +kernel
theorem dX6_meets_39 : decode cX6_meets 39 = .ok (.ireturn, 1) := by decide +kernel
theorem dX6_classOf_0 : decode cX6_classOf 0 = .ok (.aload_n 0, 1) := by decide +kernel
theorem dX6_classOf_1 : decode cX6_classOf 1 = .ok (.iload_n 1, 1) := by decide +kernel
theorem dX6_classOf_2 : decode cX6_classOf 2 = .ok (.invokevirtual 188, 3) := by decide +kernel
theorem dX6_classOf_5 : decode cX6_classOf 5 = .ok (.aload_n 0, 1) := by decide +kernel
theorem dX6_classOf_6 : decode cX6_classOf 6 = .ok (.iload_n 2, 1) := by decide +kernel
theorem dX6_classOf_7 : decode cX6_classOf 7 = .ok (.invokevirtual 137, 3) := by decide +kernel
theorem dX6_classOf_10 : decode cX6_classOf 10 = .ok (.aload_n 0, 1) := by decide +kernel
theorem dX6_classOf_11 : decode cX6_classOf 11 = .ok (.getfield 38, 3) := by decide +kernel
theorem dX6_classOf_14 : decode cX6_classOf 14 = .ok (.iload_n 1, 1) := by decide +kernel
theorem dX6_classOf_15 : decode cX6_classOf 15 = .ok (.iload_n 2, 1) := by decide +kernel
theorem dX6_classOf_16 : decode cX6_classOf 16 = .ok (.invokevirtual 223, 3) := by decide +kernel
theorem dX6_classOf_19 : decode cX6_classOf 19 = .ok (.ireturn, 1) := by decide +kernel
theorem dX6_distance_0 : decode cX6_distance 0 = .ok (.aload_n 0, 1) := by decide +kernel
theorem dX6_distance_1 : decode cX6_distance 1 = .ok (.iload_n 1, 1) := by decide +kernel
theorem dX6_distance_2 : decode cX6_distance 2 = .ok (.invokevirtual 188, 3) := by decide +kernel
theorem dX6_distance_5 : decode cX6_distance 5 = .ok (.aload_n 0, 1) := by decide +kernel
theorem dX6_distance_6 : decode cX6_distance 6 = .ok (.iload_n 2, 1) := by decide +kernel
theorem dX6_distance_7 : decode cX6_distance 7 = .ok (.invokevirtual 137, 3) := by decide +kernel
theorem dX6_distance_10 : decode cX6_distance 10 = .ok (.aload_n 0, 1) := by decide +kernel
theorem dX6_distance_11 : decode cX6_distance 11 = .ok (.getfield 38, 3) := by decide +kernel
theorem dX6_distance_14 : decode cX6_distance 14 = .ok (.iload_n 1, 1) := by decide +kernel
theorem dX6_distance_15 : decode cX6_distance 15 = .ok (.iload_n 2, 1) := by decide +kernel
theorem dX6_distance_16 : decode cX6_distance 16 = .ok (.invokevirtual 226, 3) := by decide +kernel
theorem dX6_distance_19 : decode cX6_distance 19 = .ok (.ireturn, 1) := by decide +kernel
theorem dX6_comesFirst_0 : decode cX6_comesFirst 0 = .ok (.aload_n 0, 1) := by decide +kernel
theorem dX6_comesFirst_1 : decode cX6_comesFirst 1 = .ok (.iload_n 1, 1) := by decide +kernel
theorem dX6_comesFirst_2 : decode cX6_comesFirst 2 = .ok (.invokevirtual 137, 3) := by decide +kernel
theorem dX6_comesFirst_5 : decode cX6_comesFirst 5 = .ok (.aload_n 0, 1) := by decide +kernel
theorem dX6_comesFirst_6 : decode cX6_comesFirst 6 = .ok (.iload_n 2, 1) := by decide +kernel
theorem dX6_comesFirst_7 : decode cX6_comesFirst 7 = .ok (.invokevirtual 188, 3) := by decide +kernel
theorem dX6_comesFirst_10 : decode cX6_comesFirst 10 = .ok (.aload_n 0, 1) := by decide +kernel
theorem dX6_comesFirst_11 : decode cX6_comesFirst 11 = .ok (.iload_n 3, 1) := by decide +kernel
theorem dX6_comesFirst_12 : decode cX6_comesFirst 12 = .ok (.invokevirtual 188, 3) := by decide +kernel
theorem dX6_comesFirst_15 : decode cX6_comesFirst 15 = .ok (.aload_n 0, 1) := by decide +kernel
theorem dX6_comesFirst_16 : decode cX6_comesFirst 16 = .ok (.getfield 38, 3) := by decide +kernel
theorem dX6_comesFirst_19 : decode cX6_comesFirst 19 = .ok (.iload_n 2, 1) := by decide +kernel
theorem dX6_comesFirst_20 : decode cX6_comesFirst 20 = .ok (.iload_n 1, 1) := by decide +kernel
theorem dX6_comesFirst_21 : decode cX6_comesFirst 21 = .ok (.invokevirtual 229, 3) := by decide +kernel
theorem dX6_comesFirst_24 : decode cX6_comesFirst 24 = .ok (.aload_n 0, 1) := by decide +kernel
theorem dX6_comesFirst_25 : decode cX6_comesFirst 25 = .ok (.getfield 38, 3) := by decide +kernel
theorem dX6_comesFirst_28 : decode cX6_comesFirst 28 = .ok (.iload_n 3, 1) := by decide +kernel
theorem dX6_comesFirst_29 : decode cX6_comesFirst 29 = .ok (.iload_n 1, 1) := by decide +kernel
theorem dX6_comesFirst_30 : decode cX6_comesFirst 30 = .ok (.invokevirtual 229, 3) := by decide +kernel
theorem dX6_comesFirst_33 : decode cX6_comesFirst 33 = .ok (.lcmp, 1) := by decide +kernel
theorem dX6_comesFirst_34 : decode cX6_comesFirst 34 = .ok (.ifCond .ge 7, 3) := by decide +kernel
theorem dX6_comesFirst_37 : decode cX6_comesFirst 37 = .ok (.iconst 1, 1) := by decide +kernel
theorem dX6_comesFirst_38 : decode cX6_comesFirst 38 = .ok (.goto 4, 3) := by decide +kernel
theorem dX6_comesFirst_41 : decode cX6_comesFirst 41 = .ok (.iconst 0, 1) := by decide +kernel
theorem dX6_comesFirst_42 : decode cX6_comesFirst 42 = .ok (.ireturn, 1) := by decide +kernel
theorem dX6_holder_0 : decode cX6_holder 0 = .ok (.aload_n 0, 1) := by decide +kernel
theorem dX6_holder_1 : decode cX6_holder 1 = .ok (.iload_n 1, 1) := by decide +kernel
theorem dX6_holder_2 : decode cX6_holder 2 = .ok (.invokevirtual 137, 3) := by decide +kernel
theorem dX6_holder_5 : decode cX6_holder 5 = .ok (.aload_n 0, 1) := by decide +kernel
theorem dX6_holder_6 : decode cX6_holder 6 = .ok (.getfield 38, 3) := by decide +kernel
theorem dX6_holder_9 : decode cX6_holder 9 = .ok (.aload_n 0, 1) := by decide +kernel
theorem dX6_holder_10 : decode cX6_holder 10 = .ok (.getfield 38, 3) := by decide +kernel
theorem dX6_holder_13 : decode cX6_holder 13 = .ok (.iload_n 1, 1) := by decide +kernel
theorem dX6_holder_14 : decode cX6_holder 14 = .ok (.invokevirtual 164, 3) := by decide +kernel
theorem dX6_holder_17 : decode cX6_holder 17 = .ok (.iload_n 1, 1) := by decide +kernel
theorem dX6_holder_18 : decode cX6_holder 18 = .ok (.iload_n 2, 1) := by decide +kernel
theorem dX6_holder_19 : decode cX6_holder 19 = .ok (.invokevirtual 233, 3) := by decide +kernel
theorem dX6_holder_22 : decode cX6_holder 22 = .ok (.istore_n 3, 1) := by decide +kernel
theorem dX6_holder_23 : decode cX6_holder 23 = .ok (.iload_n 3, 1) := by decide +kernel
theorem dX6_holder_24 : decode cX6_holder 24 = .ok (.iconst (-1), 1) := by decide +kernel
theorem dX6_holder_25 : decode cX6_holder 25 = .ok (.if_icmp .ne 13, 3) := by decide +kernel
theorem dX6_holder_28 : decode cX6_holder 28 = .ok (.new 183, 3) := by decide +kernel
theorem dX6_holder_31 : decode cX6_holder 31 = .ok (.dup, 1) := by decide +kernel
theorem dX6_holder_32 : decode cX6_holder 32 = .ok (.ldc 237, 2) := by decide +kernel
theorem dX6_holder_34 : decode cX6_holder 34 = .ok (.invokespecial 187, 3) := by decide +kernel
theorem dX6_holder_37 : decode cX6_holder 37 = .ok (.athrow, 1) := by decide +kernel
theorem dX6_holder_38 : decode cX6_holder 38 = .ok (.iload_n 3, 1) := by decide +kernel
theorem dX6_holder_39 : decode cX6_holder 39 = .ok (.ireturn, 1) := by decide +kernel
theorem dX6_waiting_0 : decode cX6_waiting 0 = .ok (.aload_n 0, 1) := by decide +kernel
theorem dX6_waiting_1 : decode cX6_waiting 1 = .ok (.iload_n 1, 1) := by decide +kernel
theorem dX6_waiting_2 : decode cX6_waiting 2 = .ok (.invokevirtual 137, 3) := by decide +kernel
theorem dX6_waiting_5 : decode cX6_waiting 5 = .ok (.aload_n 0, 1) := by decide +kernel
theorem dX6_waiting_6 : decode cX6_waiting 6 = .ok (.getfield 38, 3) := by decide +kernel
theorem dX6_waiting_9 : decode cX6_waiting 9 = .ok (.aload_n 0, 1) := by decide +kernel
theorem dX6_waiting_10 : decode cX6_waiting 10 = .ok (.getfield 38, 3) := by decide +kernel
theorem dX6_waiting_13 : decode cX6_waiting 13 = .ok (.iload_n 1, 1) := by decide +kernel
theorem dX6_waiting_14 : decode cX6_waiting 14 = .ok (.invokevirtual 174, 3) := by decide +kernel
theorem dX6_waiting_17 : decode cX6_waiting 17 = .ok (.iload_n 1, 1) := by decide +kernel
theorem dX6_waiting_18 : decode cX6_waiting 18 = .ok (.iload_n 2, 1) := by decide +kernel
theorem dX6_waiting_19 : decode cX6_waiting 19 = .ok (.invokevirtual 233, 3) := by decide +kernel
theorem dX6_waiting_22 : decode cX6_waiting 22 = .ok (.istore_n 3, 1) := by decide +kernel
theorem dX6_waiting_23 : decode cX6_waiting 23 = .ok (.iload_n 3, 1) := by decide +kernel
theorem dX6_waiting_24 : decode cX6_waiting 24 = .ok (.iconst (-1), 1) := by decide +kernel
theorem dX6_waiting_25 : decode cX6_waiting 25 = .ok (.if_icmp .ne 13, 3) := by decide +kernel
theorem dX6_waiting_28 : decode cX6_waiting 28 = .ok (.new 183, 3) := by decide +kernel
theorem dX6_waiting_31 : decode cX6_waiting 31 = .ok (.dup, 1) := by decide +kernel
theorem dX6_waiting_32 : decode cX6_waiting 32 = .ok (.ldc 239, 2) := by decide +kernel
theorem dX6_waiting_34 : decode cX6_waiting 34 = .ok (.invokespecial 187, 3) := by decide +kernel
theorem dX6_waiting_37 : decode cX6_waiting 37 = .ok (.athrow, 1) := by decide +kernel
theorem dX6_waiting_38 : decode cX6_waiting 38 = .ok (.iload_n 3, 1) := by decide +kernel
theorem dX6_waiting_39 : decode cX6_waiting 39 = .ok (.ireturn, 1) := by decide +kernel
theorem dX6_waitingPlace_0 : decode cX6_waitingPlace 0 = .ok (.aload_n 0, 1) := by decide +kernel
theorem dX6_waitingPlace_1 : decode cX6_waitingPlace 1 = .ok (.iload_n 1, 1) := by decide +kernel
theorem dX6_waitingPlace_2 : decode cX6_waitingPlace 2 = .ok (.invokevirtual 188, 3) := by decide +kernel
theorem dX6_waitingPlace_5 : decode cX6_waitingPlace 5 = .ok (.aload_n 0, 1) := by decide +kernel
theorem dX6_waitingPlace_6 : decode cX6_waitingPlace 6 = .ok (.iload_n 2, 1) := by decide +kernel
theorem dX6_waitingPlace_7 : decode cX6_waitingPlace 7 = .ok (.invokevirtual 137, 3) := by decide +kernel
theorem dX6_waitingPlace_10 : decode cX6_waitingPlace 10 = .ok (.aload_n 0, 1) := by decide +kernel
theorem dX6_waitingPlace_11 : decode cX6_waitingPlace 11 = .ok (.getfield 38, 3) := by decide +kernel
theorem dX6_waitingPlace_14 : decode cX6_waitingPlace 14 = .ok (.iload_n 1, 1) := by decide +kernel
theorem dX6_waitingPlace_15 : decode cX6_waitingPlace 15 = .ok (.iload_n 2, 1) := by decide +kernel
theorem dX6_waitingPlace_16 : decode cX6_waitingPlace 16 = .ok (.invokevirtual 241, 3) := by decide +kernel
theorem dX6_waitingPlace_19 : decode cX6_waitingPlace 19 = .ok (.ifCond .ne 5, 3) := by decide +kernel
theorem dX6_waitingPlace_22 : decode cX6_waitingPlace 22 = .ok (.iconst (-1), 1) := by decide +kernel
theorem dX6_waitingPlace_23 : decode cX6_waitingPlace 23 = .ok (.ireturn, 1) := by decide +kernel
theorem dX6_waitingPlace_24 : decode cX6_waitingPlace 24 = .ok (.aload_n 0, 1) := by decide +kernel
theorem dX6_waitingPlace_25 : decode cX6_waitingPlace 25 = .ok (.getfield 38, 3) := by decide +kernel
theorem dX6_waitingPlace_28 : decode cX6_waitingPlace 28 = .ok (.iload_n 1, 1) := by decide +kernel
theorem dX6_waitingPlace_29 : decode cX6_waitingPlace 29 = .ok (.aload_n 0, 1) := by decide +kernel
theorem dX6_waitingPlace_30 : decode cX6_waitingPlace 30 = .ok (.getfield 38, 3) := by decide +kernel
theorem dX6_waitingPlace_33 : decode cX6_waitingPlace 33 = .ok (.iload_n 2, 1) := by decide +kernel
theorem dX6_waitingPlace_34 : decode cX6_waitingPlace 34 = .ok (.invokevirtual 174, 3) := by decide +kernel
theorem dX6_waitingPlace_37 : decode cX6_waitingPlace 37 = .ok (.iload_n 2, 1) := by decide +kernel
theorem dX6_waitingPlace_38 : decode cX6_waitingPlace 38 = .ok (.invokevirtual 245, 3) := by decide +kernel
theorem dX6_waitingPlace_41 : decode cX6_waitingPlace 41 = .ok (.ireturn, 1) := by decide +kernel
theorem dX6_hasClaim_0 : decode cX6_hasClaim 0 = .ok (.aload_n 0, 1) := by decide +kernel
theorem dX6_hasClaim_1 : decode cX6_hasClaim 1 = .ok (.iload_n 1, 1) := by decide +kernel
theorem dX6_hasClaim_2 : decode cX6_hasClaim 2 = .ok (.invokevirtual 188, 3) := by decide +kernel
theorem dX6_hasClaim_5 : decode cX6_hasClaim 5 = .ok (.aload_n 0, 1) := by decide +kernel
theorem dX6_hasClaim_6 : decode cX6_hasClaim 6 = .ok (.iload_n 2, 1) := by decide +kernel
theorem dX6_hasClaim_7 : decode cX6_hasClaim 7 = .ok (.invokevirtual 137, 3) := by decide +kernel
theorem dX6_hasClaim_10 : decode cX6_hasClaim 10 = .ok (.aload_n 0, 1) := by decide +kernel
theorem dX6_hasClaim_11 : decode cX6_hasClaim 11 = .ok (.getfield 38, 3) := by decide +kernel
theorem dX6_hasClaim_14 : decode cX6_hasClaim 14 = .ok (.iload_n 1, 1) := by decide +kernel
theorem dX6_hasClaim_15 : decode cX6_hasClaim 15 = .ok (.iload_n 2, 1) := by decide +kernel
theorem dX6_hasClaim_16 : decode cX6_hasClaim 16 = .ok (.invokevirtual 249, 3) := by decide +kernel
theorem dX6_hasClaim_19 : decode cX6_hasClaim 19 = .ok (.ireturn, 1) := by decide +kernel
theorem dX6_claims_0 : decode cX6_claims 0 = .ok (.iconst 0, 1) := by decide +kernel
theorem dX6_claims_1 : decode cX6_claims 1 = .ok (.istore_n 1, 1) := by decide +kernel
theorem dX6_claims_2 : decode cX6_claims 2 = .ok (.iconst 0, 1) := by decide +kernel
theorem dX6_claims_3 : decode cX6_claims 3 = .ok (.istore_n 2, 1) := by decide +kernel
theorem dX6_claims_4 : decode cX6_claims 4 = .ok (.iload_n 2, 1) := by decide +kernel
theorem dX6_claims_5 : decode cX6_claims 5 = .ok (.aload_n 0, 1) := by decide +kernel
theorem dX6_claims_6 : decode cX6_claims 6 = .ok (.getfield 38, 3) := by decide +kernel
theorem dX6_claims_9 : decode cX6_claims 9 = .ok (.getfield 42, 3) := by decide +kernel
theorem dX6_claims_12 : decode cX6_claims 12 = .ok (.getfield 92, 3) := by decide +kernel
theorem dX6_claims_15 : decode cX6_claims 15 = .ok (.if_icmp .ge 43, 3) := by decide +kernel
theorem dX6_claims_18 : decode cX6_claims 18 = .ok (.iconst 0, 1) := by decide +kernel
theorem dX6_claims_19 : decode cX6_claims 19 = .ok (.istore_n 3, 1) := by decide +kernel
theorem dX6_claims_20 : decode cX6_claims 20 = .ok (.iload_n 3, 1) := by decide +kernel
theorem dX6_claims_21 : decode cX6_claims 21 = .ok (.aload_n 0, 1) := by decide +kernel
theorem dX6_claims_22 : decode cX6_claims 22 = .ok (.getfield 38, 3) := by decide +kernel
theorem dX6_claims_25 : decode cX6_claims 25 = .ok (.getfield 86, 3) := by decide +kernel
theorem dX6_claims_28 : decode cX6_claims 28 = .ok (.if_icmp .ge 24, 3) := by decide +kernel
theorem dX6_claims_31 : decode cX6_claims 31 = .ok (.aload_n 0, 1) := by decide +kernel
theorem dX6_claims_32 : decode cX6_claims 32 = .ok (.getfield 38, 3) := by decide +kernel
theorem dX6_claims_35 : decode cX6_claims 35 = .ok (.iload_n 3, 1) := by decide +kernel
theorem dX6_claims_36 : decode cX6_claims 36 = .ok (.iload_n 2, 1) := by decide +kernel
theorem dX6_claims_37 : decode cX6_claims 37 = .ok (.invokevirtual 249, 3) := by decide +kernel
theorem dX6_claims_40 : decode cX6_claims 40 = .ok (.ifCond .eq 6, 3) := by decide +kernel
theorem dX6_claims_43 : decode cX6_claims 43 = .ok (.iinc 1 1, 3) := by decide +kernel
theorem dX6_claims_46 : decode cX6_claims 46 = .ok (.iinc 3 1, 3) := by decide +kernel
theorem dX6_claims_49 : decode cX6_claims 49 = .ok (.goto (-29), 3) := by decide +kernel
theorem dX6_claims_52 : decode cX6_claims 52 = .ok (.iinc 2 1, 3) := by decide +kernel
theorem dX6_claims_55 : decode cX6_claims 55 = .ok (.goto (-51), 3) := by decide +kernel
theorem dX6_claims_58 : decode cX6_claims 58 = .ok (.iload_n 1, 1) := by decide +kernel
theorem dX6_claims_59 : decode cX6_claims 59 = .ok (.ireturn, 1) := by decide +kernel
theorem dX6_roundOf_0 : decode cX6_roundOf 0 = .ok (.aload_n 0, 1) := by decide +kernel
theorem dX6_roundOf_1 : decode cX6_roundOf 1 = .ok (.iload_n 1, 1) := by decide +kernel
theorem dX6_roundOf_2 : decode cX6_roundOf 2 = .ok (.invokevirtual 188, 3) := by decide +kernel
theorem dX6_roundOf_5 : decode cX6_roundOf 5 = .ok (.aload_n 0, 1) := by decide +kernel
theorem dX6_roundOf_6 : decode cX6_roundOf 6 = .ok (.getfield 38, 3) := by decide +kernel
theorem dX6_roundOf_9 : decode cX6_roundOf 9 = .ok (.getfield 252, 3) := by decide +kernel
theorem dX6_roundOf_12 : decode cX6_roundOf 12 = .ok (.iload_n 1, 1) := by decide +kernel
theorem dX6_roundOf_13 : decode cX6_roundOf 13 = .ok (.iaload, 1) := by decide +kernel
theorem dX6_roundOf_14 : decode cX6_roundOf 14 = .ok (.ireturn, 1) := by decide +kernel
theorem dX6_allocate_0 : decode cX6_allocate 0 = .ok (.aload_n 0, 1) := by decide +kernel
theorem dX6_allocate_1 : decode cX6_allocate 1 = .ok (.invokevirtual 255, 3) := by decide +kernel
theorem dX6_allocate_4 : decode cX6_allocate 4 = .ok (.aload_n 0, 1) := by decide +kernel
theorem dX6_allocate_5 : decode cX6_allocate 5 = .ok (.getfield 19, 3) := by decide +kernel
theorem dX6_allocate_8 : decode cX6_allocate 8 = .ok (.aload_n 0, 1) := by decide +kernel
theorem dX6_allocate_9 : decode cX6_allocate 9 = .ok (.getfield 38, 3) := by decide +kernel
theorem dX6_allocate_12 : decode cX6_allocate 12 = .ok (.invokevirtual 258, 3) := by decide +kernel
theorem dX6_allocate_15 : decode cX6_allocate 15 = .ok (.aload_n 0, 1) := by decide +kernel
theorem dX6_allocate_16 : decode cX6_allocate 16 = .ok (.getfield 38, 3) := by decide +kernel
theorem dX6_allocate_19 : decode cX6_allocate 19 = .ok (.getfield 124, 3) := by decide +kernel
theorem dX6_allocate_22 : decode cX6_allocate 22 = .ok (.ireturn, 1) := by decide +kernel
theorem dX6_addChild_0 : decode cX6_addChild 0 = .ok (.iload_n 1, 1) := by decide +kernel
theorem dX6_addChild_1 : decode cX6_addChild 1 = .ok (.iload_n 2, 1) := by decide +kernel
theorem dX6_addChild_2 : decode cX6_addChild 2 = .ok (.invokestatic 262, 3) := by decide +kernel
theorem dX6_addChild_5 : decode cX6_addChild 5 = .ok (.iload_n 3, 1) := by decide +kernel
theorem dX6_addChild_6 : decode cX6_addChild 6 = .ok (.ifCond .lt 9, 3) := by decide +kernel
theorem dX6_addChild_9 : decode cX6_addChild 9 = .ok (.iload_n 3, 1) := by decide +kernel
theorem dX6_addChild_10 : decode cX6_addChild 10 = .ok (.bipush 99, 2) := by decide +kernel
theorem dX6_addChild_12 : decode cX6_addChild 12 = .ok (.if_icmp .le 14, 3) := by decide +kernel
theorem dX6_addChild_15 : decode cX6_addChild 15 = .ok (.new 130, 3) := by decide +kernel
theorem dX6_addChild_18 : decode cX6_addChild 18 = .ok (.dup, 1) := by decide +kernel
theorem dX6_addChild_19 : decode cX6_addChild 19 = .ok (.ldc_w 266, 3) := by decide +kernel
theorem dX6_addChild_22 : decode cX6_addChild 22 = .ok (.invokespecial 134, 3) := by decide +kernel
theorem dX6_addChild_25 : decode cX6_addChild 25 = .ok (.athrow, 1) := by decide +kernel
theorem dX6_addChild_26 : decode cX6_addChild 26 = .ok (.aload_n 0, 1) := by decide +kernel
theorem dX6_addChild_27 : decode cX6_addChild 27 = .ok (.iload 5, 2) := by decide +kernel
theorem dX6_addChild_29 : decode cX6_addChild 29 = .ok (.invokevirtual 268, 3) := by decide +kernel
theorem dX6_addChild_32 : decode cX6_addChild 32 = .ok (.istore 6, 2) := by decide +kernel
theorem dX6_addChild_34 : decode cX6_addChild 34 = .ok (.iload 6, 2) := by decide +kernel
theorem dX6_addChild_36 : decode cX6_addChild 36 = .ok (.iconst (-1), 1) := by decide +kernel
theorem dX6_addChild_37 : decode cX6_addChild 37 = .ok (.if_icmp .ne 14, 3) := by decide +kernel
theorem dX6_addChild_40 : decode cX6_addChild 40 = .ok (.new 130, 3) := by decide +kernel
theorem dX6_addChild_43 : decode cX6_addChild 43 = .ok (.dup, 1) := by decide +kernel
theorem dX6_addChild_44 : decode cX6_addChild 44 = .ok (.ldc_w 271, 3) := by decide +kernel
theorem dX6_addChild_47 : decode cX6_addChild 47 = .ok (.invokespecial 134, 3) := by decide +kernel
theorem dX6_addChild_50 : decode cX6_addChild 50 = .ok (.athrow, 1) := by decide +kernel
theorem dX6_addChild_51 : decode cX6_addChild 51 = .ok (.aload_n 0, 1) := by decide +kernel
theorem dX6_addChild_52 : decode cX6_addChild 52 = .ok (.getfield 38, 3) := by decide +kernel
theorem dX6_addChild_55 : decode cX6_addChild 55 = .ok (.getfield 86, 3) := by decide +kernel
theorem dX6_addChild_58 : decode cX6_addChild 58 = .ok (.bipush 40, 2) := by decide +kernel
theorem dX6_addChild_60 : decode cX6_addChild 60 = .ok (.if_icmp .lt 14, 3) := by decide +kernel
theorem dX6_addChild_63 : decode cX6_addChild 63 = .ok (.new 273, 3) := by decide +kernel
theorem dX6_addChild_66 : decode cX6_addChild 66 = .ok (.dup, 1) := by decide +kernel
theorem dX6_addChild_67 : decode cX6_addChild 67 = .ok (.ldc_w 275, 3) := by decide +kernel
theorem dX6_addChild_70 : decode cX6_addChild 70 = .ok (.invokespecial 277, 3) := by decide +kernel
theorem dX6_addChild_73 : decode cX6_addChild 73 = .ok (.athrow, 1) := by decide +kernel
theorem dX6_addChild_74 : decode cX6_addChild 74 = .ok (.aload_n 0, 1) := by decide +kernel
theorem dX6_addChild_75 : decode cX6_addChild 75 = .ok (.invokevirtual 255, 3) := by decide +kernel
theorem dX6_addChild_78 : decode cX6_addChild 78 = .ok (.aload_n 0, 1) := by decide +kernel
theorem dX6_addChild_79 : decode cX6_addChild 79 = .ok (.getfield 38, 3) := by decide +kernel
theorem dX6_addChild_82 : decode cX6_addChild 82 = .ok (.iload_n 1, 1) := by decide +kernel
theorem dX6_addChild_83 : decode cX6_addChild 83 = .ok (.iload_n 2, 1) := by decide +kernel
theorem dX6_addChild_84 : decode cX6_addChild 84 = .ok (.iload_n 3, 1) := by decide +kernel
theorem dX6_addChild_85 : decode cX6_addChild 85 = .ok (.iload 4, 2) := by decide +kernel
theorem dX6_addChild_87 : decode cX6_addChild 87 = .ok (.iload 6, 2) := by decide +kernel
theorem dX6_addChild_89 : decode cX6_addChild 89 = .ok (.invokevirtual 278, 3) := by decide +kernel
theorem dX6_addChild_92 : decode cX6_addChild 92 = .ok (.istore 7, 2) := by decide +kernel
theorem dX6_addChild_94 : decode cX6_addChild 94 = .ok (.aload_n 0, 1) := by decide +kernel
theorem dX6_addChild_95 : decode cX6_addChild 95 = .ok (.getfield 38, 3) := by decide +kernel
theorem dX6_addChild_98 : decode cX6_addChild 98 = .ok (.invokevirtual 282, 3) := by decide +kernel
theorem dX6_addChild_101 : decode cX6_addChild 101 = .ok (.iload 7, 2) := by decide +kernel
theorem dX6_addChild_103 : decode cX6_addChild 103 = .ok (.ireturn, 1) := by decide +kernel
theorem dX6_withdraw_0 : decode cX6_withdraw 0 = .ok (.aload_n 0, 1) := by decide +kernel
theorem dX6_withdraw_1 : decode cX6_withdraw 1 = .ok (.iload_n 1, 1) := by decide +kernel
theorem dX6_withdraw_2 : decode cX6_withdraw 2 = .ok (.invokevirtual 188, 3) := by decide +kernel
theorem dX6_withdraw_5 : decode cX6_withdraw 5 = .ok (.aload_n 0, 1) := by decide +kernel
theorem dX6_withdraw_6 : decode cX6_withdraw 6 = .ok (.getfield 38, 3) := by decide +kernel
theorem dX6_withdraw_9 : decode cX6_withdraw 9 = .ok (.getfield 98, 3) := by decide +kernel
theorem dX6_withdraw_12 : decode cX6_withdraw 12 = .ok (.iload_n 1, 1) := by decide +kernel
theorem dX6_withdraw_13 : decode cX6_withdraw 13 = .ok (.invokestatic 199, 3) := by decide +kernel
theorem dX6_withdraw_16 : decode cX6_withdraw 16 = .ok (.ifCond .eq 14, 3) := by decide +kernel
theorem dX6_withdraw_19 : decode cX6_withdraw 19 = .ok (.new 273, 3) := by decide +kernel
theorem dX6_withdraw_22 : decode cX6_withdraw 22 = .ok (.dup, 1) := by decide +kernel
theorem dX6_withdraw_23 : decode cX6_withdraw 23 = .ok (.ldc_w 285, 3) := by decide +kernel
theorem dX6_withdraw_26 : decode cX6_withdraw 26 = .ok (.invokespecial 277, 3) := by decide +kernel
theorem dX6_withdraw_29 : decode cX6_withdraw 29 = .ok (.athrow, 1) := by decide +kernel
theorem dX6_withdraw_30 : decode cX6_withdraw 30 = .ok (.aload_n 0, 1) := by decide +kernel
theorem dX6_withdraw_31 : decode cX6_withdraw 31 = .ok (.invokevirtual 255, 3) := by decide +kernel
theorem dX6_withdraw_34 : decode cX6_withdraw 34 = .ok (.aload_n 0, 1) := by decide +kernel
theorem dX6_withdraw_35 : decode cX6_withdraw 35 = .ok (.getfield 38, 3) := by decide +kernel
theorem dX6_withdraw_38 : decode cX6_withdraw 38 = .ok (.getfield 213, 3) := by decide +kernel
theorem dX6_withdraw_41 : decode cX6_withdraw 41 = .ok (.iload_n 1, 1) := by decide +kernel
theorem dX6_withdraw_42 : decode cX6_withdraw 42 = .ok (.iaload, 1) := by decide +kernel
theorem dX6_withdraw_43 : decode cX6_withdraw 43 = .ok (.istore_n 2, 1) := by decide +kernel
theorem dX6_withdraw_44 : decode cX6_withdraw 44 = .ok (.aload_n 0, 1) := by decide +kernel
theorem dX6_withdraw_45 : decode cX6_withdraw 45 = .ok (.getfield 38, 3) := by decide +kernel
theorem dX6_withdraw_48 : decode cX6_withdraw 48 = .ok (.iload_n 1, 1) := by decide +kernel
theorem dX6_withdraw_49 : decode cX6_withdraw 49 = .ok (.invokevirtual 287, 3) := by decide +kernel
theorem dX6_withdraw_52 : decode cX6_withdraw 52 = .ok (.aload_n 0, 1) := by decide +kernel
theorem dX6_withdraw_53 : decode cX6_withdraw 53 = .ok (.getfield 38, 3) := by decide +kernel
theorem dX6_withdraw_56 : decode cX6_withdraw 56 = .ok (.invokevirtual 282, 3) := by decide +kernel
theorem dX6_withdraw_59 : decode cX6_withdraw 59 = .ok (.iload_n 2, 1) := by decide +kernel
theorem dX6_withdraw_60 : decode cX6_withdraw 60 = .ok (.ireturn, 1) := by decide +kernel
theorem dX6_giveBack_0 : decode cX6_giveBack 0 = .ok (.aload_n 0, 1) := by decide +kernel
theorem dX6_giveBack_1 : decode cX6_giveBack 1 = .ok (.iload_n 1, 1) := by decide +kernel
theorem dX6_giveBack_2 : decode cX6_giveBack 2 = .ok (.invokevirtual 188, 3) := by decide +kernel
theorem dX6_giveBack_5 : decode cX6_giveBack 5 = .ok (.aload_n 0, 1) := by decide +kernel
theorem dX6_giveBack_6 : decode cX6_giveBack 6 = .ok (.getfield 38, 3) := by decide +kernel
theorem dX6_giveBack_9 : decode cX6_giveBack 9 = .ok (.getfield 213, 3) := by decide +kernel
theorem dX6_giveBack_12 : decode cX6_giveBack 12 = .ok (.iload_n 1, 1) := by decide +kernel
theorem dX6_giveBack_13 : decode cX6_giveBack 13 = .ok (.iaload, 1) := by decide +kernel
theorem dX6_giveBack_14 : decode cX6_giveBack 14 = .ok (.istore_n 2, 1) := by decide +kernel
theorem dX6_giveBack_15 : decode cX6_giveBack 15 = .ok (.iload_n 2, 1) := by decide +kernel
theorem dX6_giveBack_16 : decode cX6_giveBack 16 = .ok (.iconst (-1), 1) := by decide +kernel
theorem dX6_giveBack_17 : decode cX6_giveBack 17 = .ok (.if_icmp .ne 14, 3) := by decide +kernel
theorem dX6_giveBack_20 : decode cX6_giveBack 20 = .ok (.new 273, 3) := by decide +kernel
theorem dX6_giveBack_23 : decode cX6_giveBack 23 = .ok (.dup, 1) := by decide +kernel
theorem dX6_giveBack_24 : decode cX6_giveBack 24 = .ok (.ldc_w 290, 3) := by decide +kernel
theorem dX6_giveBack_27 : decode cX6_giveBack 27 = .ok (.invokespecial 277, 3) := by decide +kernel
theorem dX6_giveBack_30 : decode cX6_giveBack 30 = .ok (.athrow, 1) := by decide +kernel
theorem dX6_giveBack_31 : decode cX6_giveBack 31 = .ok (.aload_n 0, 1) := by decide +kernel
theorem dX6_giveBack_32 : decode cX6_giveBack 32 = .ok (.invokevirtual 255, 3) := by decide +kernel
theorem dX6_giveBack_35 : decode cX6_giveBack 35 = .ok (.aload_n 0, 1) := by decide +kernel
theorem dX6_giveBack_36 : decode cX6_giveBack 36 = .ok (.getfield 38, 3) := by decide +kernel
theorem dX6_giveBack_39 : decode cX6_giveBack 39 = .ok (.iload_n 1, 1) := by decide +kernel
theorem dX6_giveBack_40 : decode cX6_giveBack 40 = .ok (.invokevirtual 292, 3) := by decide +kernel
theorem dX6_giveBack_43 : decode cX6_giveBack 43 = .ok (.aload_n 0, 1) := by decide +kernel
theorem dX6_giveBack_44 : decode cX6_giveBack 44 = .ok (.getfield 38, 3) := by decide +kernel
theorem dX6_giveBack_47 : decode cX6_giveBack 47 = .ok (.invokevirtual 282, 3) := by decide +kernel
theorem dX6_giveBack_50 : decode cX6_giveBack 50 = .ok (.iload_n 2, 1) := by decide +kernel
theorem dX6_giveBack_51 : decode cX6_giveBack 51 = .ok (.ireturn, 1) := by decide +kernel
theorem dX6_moveHome_0 : decode cX6_moveHome 0 = .ok (.aload_n 0, 1) := by decide +kernel
theorem dX6_moveHome_1 : decode cX6_moveHome 1 = .ok (.iload_n 1, 1) := by decide +kernel
theorem dX6_moveHome_2 : decode cX6_moveHome 2 = .ok (.invokevirtual 188, 3) := by decide +kernel
theorem dX6_moveHome_5 : decode cX6_moveHome 5 = .ok (.iload_n 2, 1) := by decide +kernel
theorem dX6_moveHome_6 : decode cX6_moveHome 6 = .ok (.iload_n 3, 1) := by decide +kernel
theorem dX6_moveHome_7 : decode cX6_moveHome 7 = .ok (.invokestatic 262, 3) := by decide +kernel
theorem dX6_moveHome_10 : decode cX6_moveHome 10 = .ok (.aload_n 0, 1) := by decide +kernel
theorem dX6_moveHome_11 : decode cX6_moveHome 11 = .ok (.invokevirtual 255, 3) := by decide +kernel
theorem dX6_moveHome_14 : decode cX6_moveHome 14 = .ok (.aload_n 0, 1) := by decide +kernel
theorem dX6_moveHome_15 : decode cX6_moveHome 15 = .ok (.getfield 46, 3) := by decide +kernel
theorem dX6_moveHome_18 : decode cX6_moveHome 18 = .ok (.aload_n 0, 1) := by decide +kernel
theorem dX6_moveHome_19 : decode cX6_moveHome 19 = .ok (.getfield 38, 3) := by decide +kernel
theorem dX6_moveHome_22 : decode cX6_moveHome 22 = .ok (.invokevirtual 295, 3) := by decide +kernel
theorem dX6_moveHome_25 : decode cX6_moveHome 25 = .ok (.aload_n 0, 1) := by decide +kernel
theorem dX6_moveHome_26 : decode cX6_moveHome 26 = .ok (.getfield 38, 3) := by decide +kernel
theorem dX6_moveHome_29 : decode cX6_moveHome 29 = .ok (.getfield 191, 3) := by decide +kernel
theorem dX6_moveHome_32 : decode cX6_moveHome 32 = .ok (.iload_n 1, 1) := by decide +kernel
theorem dX6_moveHome_33 : decode cX6_moveHome 33 = .ok (.iload_n 2, 1) := by decide +kernel
theorem dX6_moveHome_34 : decode cX6_moveHome 34 = .ok (.iastore, 1) := by decide +kernel
theorem dX6_moveHome_35 : decode cX6_moveHome 35 = .ok (.aload_n 0, 1) := by decide +kernel
theorem dX6_moveHome_36 : decode cX6_moveHome 36 = .ok (.getfield 38, 3) := by decide +kernel
theorem dX6_moveHome_39 : decode cX6_moveHome 39 = .ok (.getfield 192, 3) := by decide +kernel
theorem dX6_moveHome_42 : decode cX6_moveHome 42 = .ok (.iload_n 1, 1) := by decide +kernel
theorem dX6_moveHome_43 : decode cX6_moveHome 43 = .ok (.iload_n 3, 1) := by decide +kernel
theorem dX6_moveHome_44 : decode cX6_moveHome 44 = .ok (.iastore, 1) := by decide +kernel
theorem dX6_moveHome_45 : decode cX6_moveHome 45 = .ok (.iconst 0, 1) := by decide +kernel
theorem dX6_moveHome_46 : decode cX6_moveHome 46 = .ok (.istore 4, 2) := by decide +kernel
theorem dX6_moveHome_48 : decode cX6_moveHome 48 = .ok (.iconst 0, 1) := by decide +kernel
theorem dX6_moveHome_49 : decode cX6_moveHome 49 = .ok (.istore 5, 2) := by decide +kernel
theorem dX6_moveHome_51 : decode cX6_moveHome 51 = .ok (.iload 5, 2) := by decide +kernel
theorem dX6_moveHome_53 : decode cX6_moveHome 53 = .ok (.iconst 4, 1) := by decide +kernel
theorem dX6_moveHome_54 : decode cX6_moveHome 54 = .ok (.if_icmp .ge 57, 3) := by decide +kernel
theorem dX6_moveHome_57 : decode cX6_moveHome 57 = .ok (.aload_n 0, 1) := by decide +kernel
theorem dX6_moveHome_58 : decode cX6_moveHome 58 = .ok (.getfield 38, 3) := by decide +kernel
theorem dX6_moveHome_61 : decode cX6_moveHome 61 = .ok (.getfield 206, 3) := by decide +kernel
theorem dX6_moveHome_64 : decode cX6_moveHome 64 = .ok (.iload_n 1, 1) := by decide +kernel
theorem dX6_moveHome_65 : decode cX6_moveHome 65 = .ok (.iaload, 1) := by decide +kernel
theorem dX6_moveHome_66 : decode cX6_moveHome 66 = .ok (.iload 5, 2) := by decide +kernel
theorem dX6_moveHome_68 : decode cX6_moveHome 68 = .ok (.invokestatic 179, 3) := by decide +kernel
theorem dX6_moveHome_71 : decode cX6_moveHome 71 = .ok (.istore 6, 2) := by decide +kernel
theorem dX6_moveHome_73 : decode cX6_moveHome 73 = .ok (.iload 6, 2) := by decide +kernel
theorem dX6_moveHome_75 : decode cX6_moveHome 75 = .ok (.iconst (-1), 1) := by decide +kernel
theorem dX6_moveHome_76 : decode cX6_moveHome 76 = .ok (.if_icmp .eq 29, 3) := by decide +kernel
theorem dX6_moveHome_79 : decode cX6_moveHome 79 = .ok (.aload_n 0, 1) := by decide +kernel
theorem dX6_moveHome_80 : decode cX6_moveHome 80 = .ok (.getfield 38, 3) := by decide +kernel
theorem dX6_moveHome_83 : decode cX6_moveHome 83 = .ok (.iload_n 1, 1) := by decide +kernel
theorem dX6_moveHome_84 : decode cX6_moveHome 84 = .ok (.iload 6, 2) := by decide +kernel
theorem dX6_moveHome_86 : decode cX6_moveHome 86 = .ok (.invokevirtual 223, 3) := by decide +kernel
theorem dX6_moveHome_89 : decode cX6_moveHome 89 = .ok (.aload_n 0, 1) := by decide +kernel
theorem dX6_moveHome_90 : decode cX6_moveHome 90 = .ok (.getfield 46, 3) := by decide +kernel
theorem dX6_moveHome_93 : decode cX6_moveHome 93 = .ok (.iload_n 1, 1) := by decide +kernel
theorem dX6_moveHome_94 : decode cX6_moveHome 94 = .ok (.iload 6, 2) := by decide +kernel
theorem dX6_moveHome_96 : decode cX6_moveHome 96 = .ok (.invokevirtual 223, 3) := by decide +kernel
theorem dX6_moveHome_99 : decode cX6_moveHome 99 = .ok (.if_icmp .eq 6, 3) := by decide +kernel
theorem dX6_moveHome_102 : decode cX6_moveHome 102 = .ok (.iinc 4 1, 3) := by decide +kernel
theorem dX6_moveHome_105 : decode cX6_moveHome 105 = .ok (.iinc 5 1, 3) := by decide +kernel
theorem dX6_moveHome_108 : decode cX6_moveHome 108 = .ok (.goto (-57), 3) := by decide +kernel
theorem dX6_moveHome_111 : decode cX6_moveHome 111 = .ok (.aload_n 0, 1) := by decide +kernel
theorem dX6_moveHome_112 : decode cX6_moveHome 112 = .ok (.getfield 38, 3) := by decide +kernel
theorem dX6_moveHome_115 : decode cX6_moveHome 115 = .ok (.invokevirtual 282, 3) := by decide +kernel
theorem dX6_moveHome_118 : decode cX6_moveHome 118 = .ok (.iload 4, 2) := by decide +kernel
theorem dX6_moveHome_120 : decode cX6_moveHome 120 = .ok (.ireturn, 1) := by decide +kernel
theorem dX6_setCapacity_0 : decode cX6_setCapacity 0 = .ok (.aload_n 0, 1) := by decide +kernel
theorem dX6_setCapacity_1 : decode cX6_setCapacity 1 = .ok (.iload_n 1, 1) := by decide +kernel
theorem dX6_setCapacity_2 : decode cX6_setCapacity 2 = .ok (.invokevirtual 137, 3) := by decide +kernel
theorem dX6_setCapacity_5 : decode cX6_setCapacity 5 = .ok (.iload_n 2, 1) := by decide +kernel
theorem dX6_setCapacity_6 : decode cX6_setCapacity 6 = .ok (.invokestatic 298, 3) := by decide +kernel
theorem dX6_setCapacity_9 : decode cX6_setCapacity 9 = .ok (.aload_n 0, 1) := by decide +kernel
theorem dX6_setCapacity_10 : decode cX6_setCapacity 10 = .ok (.invokevirtual 255, 3) := by decide +kernel
theorem dX6_setCapacity_13 : decode cX6_setCapacity 13 = .ok (.aload_n 0, 1) := by decide +kernel
theorem dX6_setCapacity_14 : decode cX6_setCapacity 14 = .ok (.getfield 38, 3) := by decide +kernel
theorem dX6_setCapacity_17 : decode cX6_setCapacity 17 = .ok (.getfield 140, 3) := by decide +kernel
theorem dX6_setCapacity_20 : decode cX6_setCapacity 20 = .ok (.iload_n 1, 1) := by decide +kernel
theorem dX6_setCapacity_21 : decode cX6_setCapacity 21 = .ok (.iaload, 1) := by decide +kernel
theorem dX6_setCapacity_22 : decode cX6_setCapacity 22 = .ok (.istore_n 3, 1) := by decide +kernel
theorem dX6_setCapacity_23 : decode cX6_setCapacity 23 = .ok (.aload_n 0, 1) := by decide +kernel
theorem dX6_setCapacity_24 : decode cX6_setCapacity 24 = .ok (.getfield 38, 3) := by decide +kernel
theorem dX6_setCapacity_27 : decode cX6_setCapacity 27 = .ok (.getfield 140, 3) := by decide +kernel
theorem dX6_setCapacity_30 : decode cX6_setCapacity 30 = .ok (.iload_n 1, 1) := by decide +kernel
theorem dX6_setCapacity_31 : decode cX6_setCapacity 31 = .ok (.iload_n 2, 1) := by decide +kernel
theorem dX6_setCapacity_32 : decode cX6_setCapacity 32 = .ok (.iastore, 1) := by decide +kernel
theorem dX6_setCapacity_33 : decode cX6_setCapacity 33 = .ok (.aload_n 0, 1) := by decide +kernel
theorem dX6_setCapacity_34 : decode cX6_setCapacity 34 = .ok (.getfield 38, 3) := by decide +kernel
theorem dX6_setCapacity_37 : decode cX6_setCapacity 37 = .ok (.invokevirtual 282, 3) := by decide +kernel
theorem dX6_setCapacity_40 : decode cX6_setCapacity 40 = .ok (.iload_n 3, 1) := by decide +kernel
theorem dX6_setCapacity_41 : decode cX6_setCapacity 41 = .ok (.ireturn, 1) := by decide +kernel
theorem dX6_appeal_0 : decode cX6_appeal 0 = .ok (.aload_n 0, 1) := by decide +kernel
theorem dX6_appeal_1 : decode cX6_appeal 1 = .ok (.iload_n 1, 1) := by decide +kernel
theorem dX6_appeal_2 : decode cX6_appeal 2 = .ok (.invokevirtual 188, 3) := by decide +kernel
theorem dX6_appeal_5 : decode cX6_appeal 5 = .ok (.aload_n 0, 1) := by decide +kernel
theorem dX6_appeal_6 : decode cX6_appeal 6 = .ok (.iload_n 2, 1) := by decide +kernel
theorem dX6_appeal_7 : decode cX6_appeal 7 = .ok (.invokevirtual 137, 3) := by decide +kernel
theorem dX6_appeal_10 : decode cX6_appeal 10 = .ok (.aload_n 0, 1) := by decide +kernel
theorem dX6_appeal_11 : decode cX6_appeal 11 = .ok (.getfield 38, 3) := by decide +kernel
theorem dX6_appeal_14 : decode cX6_appeal 14 = .ok (.iload_n 1, 1) := by decide +kernel
theorem dX6_appeal_15 : decode cX6_appeal 15 = .ok (.iload_n 2, 1) := by decide +kernel
theorem dX6_appeal_16 : decode cX6_appeal 16 = .ok (.invokevirtual 241, 3) := by decide +kernel
theorem dX6_appeal_19 : decode cX6_appeal 19 = .ok (.ifCond .ne 14, 3) := by decide +kernel
theorem dX6_appeal_22 : decode cX6_appeal 22 = .ok (.new 273, 3) := by decide +kernel
theorem dX6_appeal_25 : decode cX6_appeal 25 = .ok (.dup, 1) := by decide +kernel
theorem dX6_appeal_26 : decode cX6_appeal 26 = .ok (.ldc_w 301, 3) := by decide +kernel
theorem dX6_appeal_29 : decode cX6_appeal 29 = .ok (.invokespecial 277, 3) := by decide +kernel
theorem dX6_appeal_32 : decode cX6_appeal 32 = .ok (.athrow, 1) := by decide +kernel
theorem dX6_appeal_33 : decode cX6_appeal 33 = .ok (.aload_n 0, 1) := by decide +kernel
theorem dX6_appeal_34 : decode cX6_appeal 34 = .ok (.invokevirtual 255, 3) := by decide +kernel
theorem dX6_appeal_37 : decode cX6_appeal 37 = .ok (.aload_n 0, 1) := by decide +kernel
theorem dX6_appeal_38 : decode cX6_appeal 38 = .ok (.getfield 38, 3) := by decide +kernel
theorem dX6_appeal_41 : decode cX6_appeal 41 = .ok (.iload_n 1, 1) := by decide +kernel
theorem dX6_appeal_42 : decode cX6_appeal 42 = .ok (.iload_n 2, 1) := by decide +kernel
theorem dX6_appeal_43 : decode cX6_appeal 43 = .ok (.invokevirtual 303, 3) := by decide +kernel
theorem dX6_appeal_46 : decode cX6_appeal 46 = .ok (.istore_n 3, 1) := by decide +kernel
theorem dX6_appeal_47 : decode cX6_appeal 47 = .ok (.aload_n 0, 1) := by decide +kernel
theorem dX6_appeal_48 : decode cX6_appeal 48 = .ok (.getfield 38, 3) := by decide +kernel
theorem dX6_appeal_51 : decode cX6_appeal 51 = .ok (.invokevirtual 282, 3) := by decide +kernel
theorem dX6_appeal_54 : decode cX6_appeal 54 = .ok (.iload_n 3, 1) := by decide +kernel
theorem dX6_appeal_55 : decode cX6_appeal 55 = .ok (.ireturn, 1) := by decide +kernel
theorem dX6_setLate_0 : decode cX6_setLate 0 = .ok (.aload_n 0, 1) := by decide +kernel
theorem dX6_setLate_1 : decode cX6_setLate 1 = .ok (.invokevirtual 255, 3) := by decide +kernel
theorem dX6_setLate_4 : decode cX6_setLate 4 = .ok (.aload_n 0, 1) := by decide +kernel
theorem dX6_setLate_5 : decode cX6_setLate 5 = .ok (.getfield 38, 3) := by decide +kernel
theorem dX6_setLate_8 : decode cX6_setLate 8 = .ok (.getfield 118, 3) := by decide +kernel
theorem dX6_setLate_11 : decode cX6_setLate 11 = .ok (.istore_n 2, 1) := by decide +kernel
theorem dX6_setLate_12 : decode cX6_setLate 12 = .ok (.aload_n 0, 1) := by decide +kernel
theorem dX6_setLate_13 : decode cX6_setLate 13 = .ok (.getfield 38, 3) := by decide +kernel
theorem dX6_setLate_16 : decode cX6_setLate 16 = .ok (.iload_n 1, 1) := by decide +kernel
theorem dX6_setLate_17 : decode cX6_setLate 17 = .ok (.putfield 118, 3) := by decide +kernel
theorem dX6_setLate_20 : decode cX6_setLate 20 = .ok (.aload_n 0, 1) := by decide +kernel
theorem dX6_setLate_21 : decode cX6_setLate 21 = .ok (.getfield 38, 3) := by decide +kernel
theorem dX6_setLate_24 : decode cX6_setLate 24 = .ok (.invokevirtual 282, 3) := by decide +kernel
theorem dX6_setLate_27 : decode cX6_setLate 27 = .ok (.iload_n 2, 1) := by decide +kernel
theorem dX6_setLate_28 : decode cX6_setLate 28 = .ok (.ireturn, 1) := by decide +kernel
theorem dX6_lastHolder_0 : decode cX6_lastHolder 0 = .ok (.aload_n 0, 1) := by decide +kernel
theorem dX6_lastHolder_1 : decode cX6_lastHolder 1 = .ok (.iload_n 1, 1) := by decide +kernel
theorem dX6_lastHolder_2 : decode cX6_lastHolder 2 = .ok (.invokevirtual 137, 3) := by decide +kernel
theorem dX6_lastHolder_5 : decode cX6_lastHolder 5 = .ok (.aload_n 0, 1) := by decide +kernel
theorem dX6_lastHolder_6 : decode cX6_lastHolder 6 = .ok (.getfield 38, 3) := by decide +kernel
theorem dX6_lastHolder_9 : decode cX6_lastHolder 9 = .ok (.aload_n 0, 1) := by decide +kernel
theorem dX6_lastHolder_10 : decode cX6_lastHolder 10 = .ok (.getfield 38, 3) := by decide +kernel
theorem dX6_lastHolder_13 : decode cX6_lastHolder 13 = .ok (.iload_n 1, 1) := by decide +kernel
theorem dX6_lastHolder_14 : decode cX6_lastHolder 14 = .ok (.invokevirtual 164, 3) := by decide +kernel
theorem dX6_lastHolder_17 : decode cX6_lastHolder 17 = .ok (.iload_n 1, 1) := by decide +kernel
theorem dX6_lastHolder_18 : decode cX6_lastHolder 18 = .ok (.invokevirtual 306, 3) := by decide +kernel
theorem dX6_lastHolder_21 : decode cX6_lastHolder 21 = .ok (.ireturn, 1) := by decide +kernel
theorem dX6_firstShare_0 : decode cX6_firstShare 0 = .ok (.iconst 0, 1) := by decide +kernel
theorem dX6_firstShare_1 : decode cX6_firstShare 1 = .ok (.istore_n 1, 1) := by decide +kernel
theorem dX6_firstShare_2 : decode cX6_firstShare 2 = .ok (.iconst 0, 1) := by decide +kernel
theorem dX6_firstShare_3 : decode cX6_firstShare 3 = .ok (.istore_n 2, 1) := by decide +kernel
theorem dX6_firstShare_4 : decode cX6_firstShare 4 = .ok (.iconst 0, 1) := by decide +kernel
theorem dX6_firstShare_5 : decode cX6_firstShare 5 = .ok (.istore_n 3, 1) := by decide +kernel
theorem dX6_firstShare_6 : decode cX6_firstShare 6 = .ok (.iload_n 3, 1) := by decide +kernel
theorem dX6_firstShare_7 : decode cX6_firstShare 7 = .ok (.aload_n 0, 1) := by decide +kernel
theorem dX6_firstShare_8 : decode cX6_firstShare 8 = .ok (.getfield 38, 3) := by decide +kernel
theorem dX6_firstShare_11 : decode cX6_firstShare 11 = .ok (.getfield 86, 3) := by decide +kernel
theorem dX6_firstShare_14 : decode cX6_firstShare 14 = .ok (.if_icmp .ge 45, 3) := by decide +kernel
theorem dX6_firstShare_17 : decode cX6_firstShare 17 = .ok (.aload_n 0, 1) := by decide +kernel
theorem dX6_firstShare_18 : decode cX6_firstShare 18 = .ok (.getfield 38, 3) := by decide +kernel
theorem dX6_firstShare_21 : decode cX6_firstShare 21 = .ok (.iload_n 3, 1) := by decide +kernel
theorem dX6_firstShare_22 : decode cX6_firstShare 22 = .ok (.invokevirtual 216, 3) := by decide +kernel
theorem dX6_firstShare_25 : decode cX6_firstShare 25 = .ok (.istore 4, 2) := by decide +kernel
theorem dX6_firstShare_27 : decode cX6_firstShare 27 = .ok (.iload_n 1, 1) := by decide +kernel
theorem dX6_firstShare_28 : decode cX6_firstShare 28 = .ok (.iload 4, 2) := by decide +kernel
theorem dX6_firstShare_30 : decode cX6_firstShare 30 = .ok (.ifCond .lt 7, 3) := by decide +kernel
theorem dX6_firstShare_33 : decode cX6_firstShare 33 = .ok (.iconst 1, 1) := by decide +kernel
theorem dX6_firstShare_34 : decode cX6_firstShare 34 = .ok (.goto 4, 3) := by decide +kernel
theorem dX6_firstShare_37 : decode cX6_firstShare 37 = .ok (.iconst 0, 1) := by decide +kernel
theorem dX6_firstShare_38 : decode cX6_firstShare 38 = .ok (.iadd, 1) := by decide +kernel
theorem dX6_firstShare_39 : decode cX6_firstShare 39 = .ok (.istore_n 1, 1) := by decide +kernel
theorem dX6_firstShare_40 : decode cX6_firstShare 40 = .ok (.iload_n 2, 1) := by decide +kernel
theorem dX6_firstShare_41 : decode cX6_firstShare 41 = .ok (.iload 4, 2) := by decide +kernel
theorem dX6_firstShare_43 : decode cX6_firstShare 43 = .ok (.ifCond .ne 7, 3) := by decide +kernel
theorem dX6_firstShare_46 : decode cX6_firstShare 46 = .ok (.iconst 1, 1) := by decide +kernel
theorem dX6_firstShare_47 : decode cX6_firstShare 47 = .ok (.goto 4, 3) := by decide +kernel
theorem dX6_firstShare_50 : decode cX6_firstShare 50 = .ok (.iconst 0, 1) := by decide +kernel
theorem dX6_firstShare_51 : decode cX6_firstShare 51 = .ok (.iadd, 1) := by decide +kernel
theorem dX6_firstShare_52 : decode cX6_firstShare 52 = .ok (.istore_n 2, 1) := by decide +kernel
theorem dX6_firstShare_53 : decode cX6_firstShare 53 = .ok (.iinc 3 1, 3) := by decide +kernel
theorem dX6_firstShare_56 : decode cX6_firstShare 56 = .ok (.goto (-50), 3) := by decide +kernel
theorem dX6_firstShare_59 : decode cX6_firstShare 59 = .ok (.iload_n 1, 1) := by decide +kernel
theorem dX6_firstShare_60 : decode cX6_firstShare 60 = .ok (.ifCond .ne 7, 3) := by decide +kernel
theorem dX6_firstShare_63 : decode cX6_firstShare 63 = .ok (.fconst 0, 1) := by decide +kernel
theorem dX6_firstShare_64 : decode cX6_firstShare 64 = .ok (.goto 8, 3) := by decide +kernel
theorem dX6_firstShare_67 : decode cX6_firstShare 67 = .ok (.iload_n 2, 1) := by decide +kernel
theorem dX6_firstShare_68 : decode cX6_firstShare 68 = .ok (.i2f, 1) := by decide +kernel
theorem dX6_firstShare_69 : decode cX6_firstShare 69 = .ok (.iload_n 1, 1) := by decide +kernel
theorem dX6_firstShare_70 : decode cX6_firstShare 70 = .ok (.i2f, 1) := by decide +kernel
theorem dX6_firstShare_71 : decode cX6_firstShare 71 = .ok (.fdiv, 1) := by decide +kernel
theorem dX6_firstShare_72 : decode cX6_firstShare 72 = .ok (.freturn, 1) := by decide +kernel
theorem dX6_meanPreference_0 : decode cX6_meanPreference 0 = .ok (.iconst 0, 1) := by decide +kernel
theorem dX6_meanPreference_1 : decode cX6_meanPreference 1 = .ok (.istore_n 1, 1) := by decide +kernel
theorem dX6_meanPreference_2 : decode cX6_meanPreference 2 = .ok (.iconst 0, 1) := by decide +kernel
theorem dX6_meanPreference_3 : decode cX6_meanPreference 3 = .ok (.istore_n 2, 1) := by decide +kernel
theorem dX6_meanPreference_4 : decode cX6_meanPreference 4 = .ok (.iconst 0, 1) := by decide +kernel
theorem dX6_meanPreference_5 : decode cX6_meanPreference 5 = .ok (.istore_n 3, 1) := by decide +kernel
theorem dX6_meanPreference_6 : decode cX6_meanPreference 6 = .ok (.iload_n 3, 1) := by decide +kernel
theorem dX6_meanPreference_7 : decode cX6_meanPreference 7 = .ok (.aload_n 0, 1) := by decide +kernel
theorem dX6_meanPreference_8 : decode cX6_meanPreference 8 = .ok (.getfield 38, 3) := by decide +kernel
theorem dX6_meanPreference_11 : decode cX6_meanPreference 11 = .ok (.getfield 86, 3) := by decide +kernel
theorem dX6_meanPreference_14 : decode cX6_meanPreference 14 = .ok (.if_icmp .ge 34, 3) := by decide +kernel
theorem dX6_meanPreference_17 : decode cX6_meanPreference 17 = .ok (.aload_n 0, 1) := by decide +kernel
theorem dX6_meanPreference_18 : decode cX6_meanPreference 18 = .ok (.getfield 38, 3) := by decide +kernel
theorem dX6_meanPreference_21 : decode cX6_meanPreference 21 = .ok (.iload_n 3, 1) := by decide +kernel
theorem dX6_meanPreference_22 : decode cX6_meanPreference 22 = .ok (.invokevirtual 216, 3) := by decide +kernel
theorem dX6_meanPreference_25 : decode cX6_meanPreference 25 = .ok (.istore 4, 2) := by decide +kernel
theorem dX6_meanPreference_27 : decode cX6_meanPreference 27 = .ok (.iload 4, 2) := by decide +kernel
theorem dX6_meanPreference_29 : decode cX6_meanPreference 29 = .ok (.ifCond .lt 13, 3) := by decide +kernel
theorem dX6_meanPreference_32 : decode cX6_meanPreference 32 = .ok (.iinc 1 1, 3) := by decide +kernel
theorem dX6_meanPreference_35 : decode cX6_meanPreference 35 = .ok (.iload_n 2, 1) := by decide +kernel
theorem dX6_meanPreference_36 : decode cX6_meanPreference 36 = .ok (.iload 4, 2) := by decide +kernel
theorem dX6_meanPreference_38 : decode cX6_meanPreference 38 = .ok (.iconst 1, 1) := by decide +kernel
theorem dX6_meanPreference_39 : decode cX6_meanPreference 39 = .ok (.iadd, 1) := by decide +kernel
theorem dX6_meanPreference_40 : decode cX6_meanPreference 40 = .ok (.iadd, 1) := by decide +kernel
theorem dX6_meanPreference_41 : decode cX6_meanPreference 41 = .ok (.istore_n 2, 1) := by decide +kernel
theorem dX6_meanPreference_42 : decode cX6_meanPreference 42 = .ok (.iinc 3 1, 3) := by decide +kernel
theorem dX6_meanPreference_45 : decode cX6_meanPreference 45 = .ok (.goto (-39), 3) := by decide +kernel
theorem dX6_meanPreference_48 : decode cX6_meanPreference 48 = .ok (.iload_n 1, 1) := by decide +kernel
theorem dX6_meanPreference_49 : decode cX6_meanPreference 49 = .ok (.ifCond .ne 7, 3) := by decide +kernel
theorem dX6_meanPreference_52 : decode cX6_meanPreference 52 = .ok (.dconst 0, 1) := by decide +kernel
theorem dX6_meanPreference_53 : decode cX6_meanPreference 53 = .ok (.goto 8, 3) := by decide +kernel
theorem dX6_meanPreference_56 : decode cX6_meanPreference 56 = .ok (.iload_n 2, 1) := by decide +kernel
theorem dX6_meanPreference_57 : decode cX6_meanPreference 57 = .ok (.i2d, 1) := by decide +kernel
theorem dX6_meanPreference_58 : decode cX6_meanPreference 58 = .ok (.iload_n 1, 1) := by decide +kernel
theorem dX6_meanPreference_59 : decode cX6_meanPreference 59 = .ok (.i2d, 1) := by decide +kernel
theorem dX6_meanPreference_60 : decode cX6_meanPreference 60 = .ok (.ddiv, 1) := by decide +kernel
theorem dX6_meanPreference_61 : decode cX6_meanPreference 61 = .ok (.dreturn, 1) := by decide +kernel
theorem dX6_way_0 : decode cX6_way 0 = .ok (.aload_n 0, 1) := by decide +kernel
theorem dX6_way_1 : decode cX6_way 1 = .ok (.iload_n 1, 1) := by decide +kernel
theorem dX6_way_2 : decode cX6_way 2 = .ok (.invokevirtual 188, 3) := by decide +kernel
theorem dX6_way_5 : decode cX6_way 5 = .ok (.aload_n 0, 1) := by decide +kernel
theorem dX6_way_6 : decode cX6_way 6 = .ok (.getfield 38, 3) := by decide +kernel
theorem dX6_way_9 : decode cX6_way 9 = .ok (.getfield 213, 3) := by decide +kernel
theorem dX6_way_12 : decode cX6_way 12 = .ok (.iload_n 1, 1) := by decide +kernel
theorem dX6_way_13 : decode cX6_way 13 = .ok (.iaload, 1) := by decide +kernel
theorem dX6_way_14 : decode cX6_way 14 = .ok (.istore_n 2, 1) := by decide +kernel
theorem dX6_way_15 : decode cX6_way 15 = .ok (.iload_n 2, 1) := by decide +kernel
theorem dX6_way_16 : decode cX6_way 16 = .ok (.iconst (-1), 1) := by decide +kernel
theorem dX6_way_17 : decode cX6_way 17 = .ok (.if_icmp .ne 9, 3) := by decide +kernel
theorem dX6_way_20 : decode cX6_way 20 = .ok (.ldc_w 310, 3) := by decide +kernel
theorem dX6_way_23 : decode cX6_way 23 = .ok (.goto 16, 3) := by decide +kernel
theorem dX6_way_26 : decode cX6_way 26 = .ok (.aload_n 0, 1) := by decide +kernel
theorem dX6_way_27 : decode cX6_way 27 = .ok (.getfield 38, 3) := by decide +kernel
theorem dX6_way_30 : decode cX6_way 30 = .ok (.iload_n 1, 1) := by decide +kernel
theorem dX6_way_31 : decode cX6_way 31 = .ok (.iload_n 2, 1) := by decide +kernel
theorem dX6_way_32 : decode cX6_way 32 = .ok (.invokevirtual 226, 3) := by decide +kernel
theorem dX6_way_35 : decode cX6_way 35 = .ok (.invokestatic 311, 3) := by decide +kernel
theorem dX6_way_38 : decode cX6_way 38 = .ok (.d2f, 1) := by decide +kernel
theorem dX6_way_39 : decode cX6_way 39 = .ok (.freturn, 1) := by decide +kernel
theorem dX6_wanted_0 : decode cX6_wanted 0 = .ok (.aload_n 0, 1) := by decide +kernel
theorem dX6_wanted_1 : decode cX6_wanted 1 = .ok (.iload_n 1, 1) := by decide +kernel
theorem dX6_wanted_2 : decode cX6_wanted 2 = .ok (.invokevirtual 137, 3) := by decide +kernel
theorem dX6_wanted_5 : decode cX6_wanted 5 = .ok (.iconst 0, 1) := by decide +kernel
theorem dX6_wanted_6 : decode cX6_wanted 6 = .ok (.istore_n 3, 1) := by decide +kernel
theorem dX6_wanted_7 : decode cX6_wanted 7 = .ok (.iconst 0, 1) := by decide +kernel
theorem dX6_wanted_8 : decode cX6_wanted 8 = .ok (.istore 4, 2) := by decide +kernel
theorem dX6_wanted_10 : decode cX6_wanted 10 = .ok (.iload 4, 2) := by decide +kernel
theorem dX6_wanted_12 : decode cX6_wanted 12 = .ok (.aload_n 0, 1) := by decide +kernel
theorem dX6_wanted_13 : decode cX6_wanted 13 = .ok (.getfield 38, 3) := by decide +kernel
theorem dX6_wanted_16 : decode cX6_wanted 16 = .ok (.getfield 86, 3) := by decide +kernel
theorem dX6_wanted_19 : decode cX6_wanted 19 = .ok (.if_icmp .ge 45, 3) := by decide +kernel
theorem dX6_wanted_22 : decode cX6_wanted 22 = .ok (.aload_n 0, 1) := by decide +kernel
theorem dX6_wanted_23 : decode cX6_wanted 23 = .ok (.getfield 38, 3) := by decide +kernel
theorem dX6_wanted_26 : decode cX6_wanted 26 = .ok (.getfield 98, 3) := by decide +kernel
theorem dX6_wanted_29 : decode cX6_wanted 29 = .ok (.iload 4, 2) := by decide +kernel
theorem dX6_wanted_31 : decode cX6_wanted 31 = .ok (.invokestatic 199, 3) := by decide +kernel
theorem dX6_wanted_34 : decode cX6_wanted 34 = .ok (.ifCond .ne 24, 3) := by decide +kernel
theorem dX6_wanted_37 : decode cX6_wanted 37 = .ok (.aload_n 0, 1) := by decide +kernel
theorem dX6_wanted_38 : decode cX6_wanted 38 = .ok (.getfield 38, 3) := by decide +kernel
theorem dX6_wanted_41 : decode cX6_wanted 41 = .ok (.getfield 206, 3) := by decide +kernel
theorem dX6_wanted_44 : decode cX6_wanted 44 = .ok (.iload 4, 2) := by decide +kernel
theorem dX6_wanted_46 : decode cX6_wanted 46 = .ok (.iaload, 1) := by decide +kernel
theorem dX6_wanted_47 : decode cX6_wanted 47 = .ok (.iload_n 2, 1) := by decide +kernel
theorem dX6_wanted_48 : decode cX6_wanted 48 = .ok (.invokestatic 179, 3) := by decide +kernel
theorem dX6_wanted_51 : decode cX6_wanted 51 = .ok (.iload_n 1, 1) := by decide +kernel
theorem dX6_wanted_52 : decode cX6_wanted 52 = .ok (.if_icmp .ne 6, 3) := by decide +kernel
theorem dX6_wanted_55 : decode cX6_wanted 55 = .ok (.iinc 3 1, 3) := by decide +kernel
theorem dX6_wanted_58 : decode cX6_wanted 58 = .ok (.iinc 4 1, 3) := by decide +kernel
theorem dX6_wanted_61 : decode cX6_wanted 61 = .ok (.goto (-51), 3) := by decide +kernel
theorem dX6_wanted_64 : decode cX6_wanted 64 = .ok (.iload_n 3, 1) := by decide +kernel
theorem dX6_wanted_65 : decode cX6_wanted 65 = .ok (.ireturn, 1) := by decide +kernel
theorem dX6_inZone_0 : decode cX6_inZone 0 = .ok (.aload_n 0, 1) := by decide +kernel
theorem dX6_inZone_1 : decode cX6_inZone 1 = .ok (.iload_n 1, 1) := by decide +kernel
theorem dX6_inZone_2 : decode cX6_inZone 2 = .ok (.invokevirtual 137, 3) := by decide +kernel
theorem dX6_inZone_5 : decode cX6_inZone 5 = .ok (.iconst 0, 1) := by decide +kernel
theorem dX6_inZone_6 : decode cX6_inZone 6 = .ok (.istore_n 2, 1) := by decide +kernel
theorem dX6_inZone_7 : decode cX6_inZone 7 = .ok (.iconst 0, 1) := by decide +kernel
theorem dX6_inZone_8 : decode cX6_inZone 8 = .ok (.istore_n 3, 1) := by decide +kernel
theorem dX6_inZone_9 : decode cX6_inZone 9 = .ok (.iload_n 3, 1) := by decide +kernel
theorem dX6_inZone_10 : decode cX6_inZone 10 = .ok (.aload_n 0, 1) := by decide +kernel
theorem dX6_inZone_11 : decode cX6_inZone 11 = .ok (.getfield 38, 3) := by decide +kernel
theorem dX6_inZone_14 : decode cX6_inZone 14 = .ok (.getfield 86, 3) := by decide +kernel
theorem dX6_inZone_17 : decode cX6_inZone 17 = .ok (.if_icmp .ge 39, 3) := by decide +kernel
theorem dX6_inZone_20 : decode cX6_inZone 20 = .ok (.aload_n 0, 1) := by decide +kernel
theorem dX6_inZone_21 : decode cX6_inZone 21 = .ok (.getfield 38, 3) := by decide +kernel
theorem dX6_inZone_24 : decode cX6_inZone 24 = .ok (.getfield 98, 3) := by decide +kernel
theorem dX6_inZone_27 : decode cX6_inZone 27 = .ok (.iload_n 3, 1) := by decide +kernel
theorem dX6_inZone_28 : decode cX6_inZone 28 = .ok (.invokestatic 199, 3) := by decide +kernel
theorem dX6_inZone_31 : decode cX6_inZone 31 = .ok (.ifCond .ne 19, 3) := by decide +kernel
theorem dX6_inZone_34 : decode cX6_inZone 34 = .ok (.aload_n 0, 1) := by decide +kernel
theorem dX6_inZone_35 : decode cX6_inZone 35 = .ok (.getfield 38, 3) := by decide +kernel
theorem dX6_inZone_38 : decode cX6_inZone 38 = .ok (.iload_n 3, 1) := by decide +kernel
theorem dX6_inZone_39 : decode cX6_inZone 39 = .ok (.iload_n 1, 1) := by decide +kernel
theorem dX6_inZone_40 : decode cX6_inZone 40 = .ok (.iconst 2, 1) := by decide +kernel
theorem dX6_inZone_41 : decode cX6_inZone 41 = .ok (.invokevirtual 219, 3) := by decide +kernel
theorem dX6_inZone_44 : decode cX6_inZone 44 = .ok (.ifCond .eq 6, 3) := by decide +kernel
theorem dX6_inZone_47 : decode cX6_inZone 47 = .ok (.iinc 2 1, 3) := by decide +kernel
theorem dX6_inZone_50 : decode cX6_inZone 50 = .ok (.iinc 3 1, 3) := by decide +kernel
theorem dX6_inZone_53 : decode cX6_inZone 53 = .ok (.goto (-44), 3) := by decide +kernel
theorem dX6_inZone_56 : decode cX6_inZone 56 = .ok (.iload_n 2, 1) := by decide +kernel
theorem dX6_inZone_57 : decode cX6_inZone 57 = .ok (.ireturn, 1) := by decide +kernel
theorem dX6_together_0 : decode cX6_together 0 = .ok (.iconst 0, 1) := by decide +kernel
theorem dX6_together_1 : decode cX6_together 1 = .ok (.istore_n 1, 1) := by decide +kernel
theorem dX6_together_2 : decode cX6_together 2 = .ok (.iconst 1, 1) := by decide +kernel
theorem dX6_together_3 : decode cX6_together 3 = .ok (.istore_n 2, 1) := by decide +kernel
theorem dX6_together_4 : decode cX6_together 4 = .ok (.iload_n 2, 1) := by decide +kernel
theorem dX6_together_5 : decode cX6_together 5 = .ok (.bipush 99, 2) := by decide +kernel
theorem dX6_together_7 : decode cX6_together 7 = .ok (.if_icmp .gt 23, 3) := by decide +kernel
theorem dX6_together_10 : decode cX6_together 10 = .ok (.aload_n 0, 1) := by decide +kernel
theorem dX6_together_11 : decode cX6_together 11 = .ok (.getfield 38, 3) := by decide +kernel
theorem dX6_together_14 : decode cX6_together 14 = .ok (.iload_n 2, 1) := by decide +kernel
theorem dX6_together_15 : decode cX6_together 15 = .ok (.invokevirtual 315, 3) := by decide +kernel
theorem dX6_together_18 : decode cX6_together 18 = .ok (.ifCond .eq 6, 3) := by decide +kernel
theorem dX6_together_21 : decode cX6_together 21 = .ok (.iinc 1 1, 3) := by decide +kernel
theorem dX6_together_24 : decode cX6_together 24 = .ok (.iinc 2 1, 3) := by decide +kernel
theorem dX6_together_27 : decode cX6_together 27 = .ok (.goto (-23), 3) := by decide +kernel
theorem dX6_together_30 : decode cX6_together 30 = .ok (.iload_n 1, 1) := by decide +kernel
theorem dX6_together_31 : decode cX6_together 31 = .ok (.ireturn, 1) := by decide +kernel
theorem dX6_cutoff_0 : decode cX6_cutoff 0 = .ok (.aload_n 0, 1) := by decide +kernel
theorem dX6_cutoff_1 : decode cX6_cutoff 1 = .ok (.iload_n 1, 1) := by decide +kernel
theorem dX6_cutoff_2 : decode cX6_cutoff 2 = .ok (.invokevirtual 137, 3) := by decide +kernel
theorem dX6_cutoff_5 : decode cX6_cutoff 5 = .ok (.iload_n 2, 1) := by decide +kernel
theorem dX6_cutoff_6 : decode cX6_cutoff 6 = .ok (.ifCond .lt 8, 3) := by decide +kernel
theorem dX6_cutoff_9 : decode cX6_cutoff 9 = .ok (.iload_n 2, 1) := by decide +kernel
theorem dX6_cutoff_10 : decode cX6_cutoff 10 = .ok (.iconst 2, 1) := by decide +kernel
theorem dX6_cutoff_11 : decode cX6_cutoff 11 = .ok (.if_icmp .le 13, 3) := by decide +kernel
theorem dX6_cutoff_14 : decode cX6_cutoff 14 = .ok (.new 130, 3) := by decide +kernel
theorem dX6_cutoff_17 : decode cX6_cutoff 17 = .ok (.dup, 1) := by decide +kernel
theorem dX6_cutoff_18 : decode cX6_cutoff 18 = .ok (.ldc 209, 2) := by decide +kernel
theorem dX6_cutoff_20 : decode cX6_cutoff 20 = .ok (.invokespecial 134, 3) := by decide +kernel
theorem dX6_cutoff_23 : decode cX6_cutoff 23 = .ok (.athrow, 1) := by decide +kernel
theorem dX6_cutoff_24 : decode cX6_cutoff 24 = .ok (.aload_n 0, 1) := by decide +kernel
theorem dX6_cutoff_25 : decode cX6_cutoff 25 = .ok (.getfield 38, 3) := by decide +kernel
theorem dX6_cutoff_28 : decode cX6_cutoff 28 = .ok (.aload_n 0, 1) := by decide +kernel
theorem dX6_cutoff_29 : decode cX6_cutoff 29 = .ok (.getfield 38, 3) := by decide +kernel
theorem dX6_cutoff_32 : decode cX6_cutoff 32 = .ok (.iload_n 1, 1) := by decide +kernel
theorem dX6_cutoff_33 : decode cX6_cutoff 33 = .ok (.invokevirtual 164, 3) := by decide +kernel
theorem dX6_cutoff_36 : decode cX6_cutoff 36 = .ok (.iload_n 1, 1) := by decide +kernel
theorem dX6_cutoff_37 : decode cX6_cutoff 37 = .ok (.invokevirtual 306, 3) := by decide +kernel
theorem dX6_cutoff_40 : decode cX6_cutoff 40 = .ok (.istore_n 3, 1) := by decide +kernel
theorem dX6_cutoff_41 : decode cX6_cutoff 41 = .ok (.iload_n 3, 1) := by decide +kernel
theorem dX6_cutoff_42 : decode cX6_cutoff 42 = .ok (.iconst (-1), 1) := by decide +kernel
theorem dX6_cutoff_43 : decode cX6_cutoff 43 = .ok (.if_icmp .ne 5, 3) := by decide +kernel
theorem dX6_cutoff_46 : decode cX6_cutoff 46 = .ok (.iconst (-1), 1) := by decide +kernel
theorem dX6_cutoff_47 : decode cX6_cutoff 47 = .ok (.ireturn, 1) := by decide +kernel
theorem dX6_cutoff_48 : decode cX6_cutoff 48 = .ok (.iload_n 2, 1) := by decide +kernel
theorem dX6_cutoff_49 : decode cX6_cutoff 49 = .ok (.ifCond .ne 13, 3) := by decide +kernel
theorem dX6_cutoff_52 : decode cX6_cutoff 52 = .ok (.aload_n 0, 1) := by decide +kernel
theorem dX6_cutoff_53 : decode cX6_cutoff 53 = .ok (.getfield 38, 3) := by decide +kernel
theorem dX6_cutoff_56 : decode cX6_cutoff 56 = .ok (.iload_n 3, 1) := by decide +kernel
theorem dX6_cutoff_57 : decode cX6_cutoff 57 = .ok (.iload_n 1, 1) := by decide +kernel
theorem dX6_cutoff_58 : decode cX6_cutoff 58 = .ok (.invokevirtual 223, 3) := by decide +kernel
theorem dX6_cutoff_61 : decode cX6_cutoff 61 = .ok (.ireturn, 1) := by decide +kernel
theorem dX6_cutoff_62 : decode cX6_cutoff 62 = .ok (.iload_n 2, 1) := by decide +kernel
theorem dX6_cutoff_63 : decode cX6_cutoff 63 = .ok (.iconst 1, 1) := by decide +kernel
theorem dX6_cutoff_64 : decode cX6_cutoff 64 = .ok (.if_icmp .ne 15, 3) := by decide +kernel
theorem dX6_cutoff_67 : decode cX6_cutoff 67 = .ok (.aload_n 0, 1) := by decide +kernel
theorem dX6_cutoff_68 : decode cX6_cutoff 68 = .ok (.getfield 38, 3) := by decide +kernel
theorem dX6_cutoff_71 : decode cX6_cutoff 71 = .ok (.iload_n 3, 1) := by decide +kernel
theorem dX6_cutoff_72 : decode cX6_cutoff 72 = .ok (.iload_n 1, 1) := by decide +kernel
theorem dX6_cutoff_73 : decode cX6_cutoff 73 = .ok (.invokevirtual 226, 3) := by decide +kernel
theorem dX6_cutoff_76 : decode cX6_cutoff 76 = .ok (.goto 12, 3) := by decide +kernel
theorem dX6_cutoff_79 : decode cX6_cutoff 79 = .ok (.aload_n 0, 1) := by decide +kernel
theorem dX6_cutoff_80 : decode cX6_cutoff 80 = .ok (.getfield 38, 3) := by decide +kernel
theorem dX6_cutoff_83 : decode cX6_cutoff 83 = .ok (.getfield 203, 3) := by decide +kernel
theorem dX6_cutoff_86 : decode cX6_cutoff 86 = .ok (.iload_n 3, 1) := by decide +kernel
theorem dX6_cutoff_87 : decode cX6_cutoff 87 = .ok (.iaload, 1) := by decide +kernel
theorem dX6_cutoff_88 : decode cX6_cutoff 88 = .ok (.ireturn, 1) := by decide +kernel
theorem dX6_nearest_0 : decode cX6_nearest 0 = .ok (.aload_n 0, 1) := by decide +kernel
theorem dX6_nearest_1 : decode cX6_nearest 1 = .ok (.iload_n 1, 1) := by decide +kernel
theorem dX6_nearest_2 : decode cX6_nearest 2 = .ok (.invokevirtual 188, 3) := by decide +kernel
theorem dX6_nearest_5 : decode cX6_nearest 5 = .ok (.iconst (-1), 1) := by decide +kernel
theorem dX6_nearest_6 : decode cX6_nearest 6 = .ok (.istore_n 2, 1) := by decide +kernel
theorem dX6_nearest_7 : decode cX6_nearest 7 = .ok (.iconst 0, 1) := by decide +kernel
theorem dX6_nearest_8 : decode cX6_nearest 8 = .ok (.istore_n 3, 1) := by decide +kernel
theorem dX6_nearest_9 : decode cX6_nearest 9 = .ok (.iload_n 3, 1) := by decide +kernel
theorem dX6_nearest_10 : decode cX6_nearest 10 = .ok (.aload_n 0, 1) := by decide +kernel
theorem dX6_nearest_11 : decode cX6_nearest 11 = .ok (.getfield 38, 3) := by decide +kernel
theorem dX6_nearest_14 : decode cX6_nearest 14 = .ok (.getfield 42, 3) := by decide +kernel
theorem dX6_nearest_17 : decode cX6_nearest 17 = .ok (.getfield 92, 3) := by decide +kernel
theorem dX6_nearest_20 : decode cX6_nearest 20 = .ok (.if_icmp .ge 37, 3) := by decide +kernel
theorem dX6_nearest_23 : decode cX6_nearest 23 = .ok (.iload_n 2, 1) := by decide +kernel
theorem dX6_nearest_24 : decode cX6_nearest 24 = .ok (.iconst (-1), 1) := by decide +kernel
theorem dX6_nearest_25 : decode cX6_nearest 25 = .ok (.if_icmp .eq 24, 3) := by decide +kernel
theorem dX6_nearest_28 : decode cX6_nearest 28 = .ok (.aload_n 0, 1) := by decide +kernel
theorem dX6_nearest_29 : decode cX6_nearest 29 = .ok (.getfield 38, 3) := by decide +kernel
theorem dX6_nearest_32 : decode cX6_nearest 32 = .ok (.iload_n 1, 1) := by decide +kernel
theorem dX6_nearest_33 : decode cX6_nearest 33 = .ok (.iload_n 3, 1) := by decide +kernel
theorem dX6_nearest_34 : decode cX6_nearest 34 = .ok (.invokevirtual 226, 3) := by decide +kernel
theorem dX6_nearest_37 : decode cX6_nearest 37 = .ok (.aload_n 0, 1) := by decide +kernel
theorem dX6_nearest_38 : decode cX6_nearest 38 = .ok (.getfield 38, 3) := by decide +kernel
theorem dX6_nearest_41 : decode cX6_nearest 41 = .ok (.iload_n 1, 1) := by decide +kernel
theorem dX6_nearest_42 : decode cX6_nearest 42 = .ok (.iload_n 2, 1) := by decide +kernel
theorem dX6_nearest_43 : decode cX6_nearest 43 = .ok (.invokevirtual 226, 3) := by decide +kernel
theorem dX6_nearest_46 : decode cX6_nearest 46 = .ok (.if_icmp .ge 5, 3) := by decide +kernel
theorem dX6_nearest_49 : decode cX6_nearest 49 = .ok (.iload_n 3, 1) := by decide +kernel
theorem dX6_nearest_50 : decode cX6_nearest 50 = .ok (.istore_n 2, 1) := by decide +kernel
theorem dX6_nearest_51 : decode cX6_nearest 51 = .ok (.iinc 3 1, 3) := by decide +kernel
theorem dX6_nearest_54 : decode cX6_nearest 54 = .ok (.goto (-45), 3) := by decide +kernel
theorem dX6_nearest_57 : decode cX6_nearest 57 = .ok (.iload_n 2, 1) := by decide +kernel
theorem dX6_nearest_58 : decode cX6_nearest 58 = .ok (.ireturn, 1) := by decide +kernel
theorem dX6_freePlaces_0 : decode cX6_freePlaces 0 = .ok (.iconst 0, 1) := by decide +kernel
theorem dX6_freePlaces_1 : decode cX6_freePlaces 1 = .ok (.istore_n 1, 1) := by decide +kernel
theorem dX6_freePlaces_2 : decode cX6_freePlaces 2 = .ok (.iconst 0, 1) := by decide +kernel
theorem dX6_freePlaces_3 : decode cX6_freePlaces 3 = .ok (.istore_n 2, 1) := by decide +kernel
theorem dX6_freePlaces_4 : decode cX6_freePlaces 4 = .ok (.iload_n 2, 1) := by decide +kernel
theorem dX6_freePlaces_5 : decode cX6_freePlaces 5 = .ok (.aload_n 0, 1) := by decide +kernel
theorem dX6_freePlaces_6 : decode cX6_freePlaces 6 = .ok (.getfield 38, 3) := by decide +kernel
theorem dX6_freePlaces_9 : decode cX6_freePlaces 9 = .ok (.getfield 42, 3) := by decide +kernel
theorem dX6_freePlaces_12 : decode cX6_freePlaces 12 = .ok (.getfield 92, 3) := by decide +kernel
theorem dX6_freePlaces_15 : decode cX6_freePlaces 15 = .ok (.if_icmp .ge 37, 3) := by decide +kernel
theorem dX6_freePlaces_18 : decode cX6_freePlaces 18 = .ok (.iload_n 1, 1) := by decide +kernel
theorem dX6_freePlaces_19 : decode cX6_freePlaces 19 = .ok (.iconst 0, 1) := by decide +kernel
theorem dX6_freePlaces_20 : decode cX6_freePlaces 20 = .ok (.aload_n 0, 1) := by decide +kernel
theorem dX6_freePlaces_21 : decode cX6_freePlaces 21 = .ok (.getfield 38, 3) := by decide +kernel
theorem dX6_freePlaces_24 : decode cX6_freePlaces 24 = .ok (.getfield 140, 3) := by decide +kernel
theorem dX6_freePlaces_27 : decode cX6_freePlaces 27 = .ok (.iload_n 2, 1) := by decide +kernel
theorem dX6_freePlaces_28 : decode cX6_freePlaces 28 = .ok (.iaload, 1) := by decide +kernel
theorem dX6_freePlaces_29 : decode cX6_freePlaces 29 = .ok (.aload_n 0, 1) := by decide +kernel
theorem dX6_freePlaces_30 : decode cX6_freePlaces 30 = .ok (.getfield 38, 3) := by decide +kernel
theorem dX6_freePlaces_33 : decode cX6_freePlaces 33 = .ok (.iload_n 2, 1) := by decide +kernel
theorem dX6_freePlaces_34 : decode cX6_freePlaces 34 = .ok (.invokevirtual 164, 3) := by decide +kernel
theorem dX6_freePlaces_37 : decode cX6_freePlaces 37 = .ok (.invokestatic 102, 3) := by decide +kernel
theorem dX6_freePlaces_40 : decode cX6_freePlaces 40 = .ok (.isub, 1) := by decide +kernel
theorem dX6_freePlaces_41 : decode cX6_freePlaces 41 = .ok (.invokestatic 318, 3) := by decide +kernel
theorem dX6_freePlaces_44 : decode cX6_freePlaces 44 = .ok (.iadd, 1) := by decide +kernel
theorem dX6_freePlaces_45 : decode cX6_freePlaces 45 = .ok (.istore_n 1, 1) := by decide +kernel
theorem dX6_freePlaces_46 : decode cX6_freePlaces 46 = .ok (.iinc 2 1, 3) := by decide +kernel
theorem dX6_freePlaces_49 : decode cX6_freePlaces 49 = .ok (.goto (-45), 3) := by decide +kernel
theorem dX6_freePlaces_52 : decode cX6_freePlaces 52 = .ok (.iload_n 1, 1) := by decide +kernel
theorem dX6_freePlaces_53 : decode cX6_freePlaces 53 = .ok (.ireturn, 1) := by decide +kernel
theorem dX6_tradePartner_0 : decode cX6_tradePartner 0 = .ok (.aload_n 0, 1) := by decide +kernel
theorem dX6_tradePartner_1 : decode cX6_tradePartner 1 = .ok (.iload_n 1, 1) := by decide +kernel
theorem dX6_tradePartner_2 : decode cX6_tradePartner 2 = .ok (.invokevirtual 188, 3) := by decide +kernel
theorem dX6_tradePartner_5 : decode cX6_tradePartner 5 = .ok (.iconst 0, 1) := by decide +kernel
theorem dX6_tradePartner_6 : decode cX6_tradePartner 6 = .ok (.istore_n 2, 1) := by decide +kernel
theorem dX6_tradePartner_7 : decode cX6_tradePartner 7 = .ok (.iload_n 2, 1) := by decide +kernel
theorem dX6_tradePartner_8 : decode cX6_tradePartner 8 = .ok (.aload_n 0, 1) := by decide +kernel
theorem dX6_tradePartner_9 : decode cX6_tradePartner 9 = .ok (.getfield 38, 3) := by decide +kernel
theorem dX6_tradePartner_12 : decode cX6_tradePartner 12 = .ok (.getfield 86, 3) := by decide +kernel
theorem dX6_tradePartner_15 : decode cX6_tradePartner 15 = .ok (.if_icmp .ge 23, 3) := by decide +kernel
theorem dX6_tradePartner_18 : decode cX6_tradePartner 18 = .ok (.aload_n 0, 1) := by decide +kernel
theorem dX6_tradePartner_19 : decode cX6_tradePartner 19 = .ok (.getfield 38, 3) := by decide +kernel
theorem dX6_tradePartner_22 : decode cX6_tradePartner 22 = .ok (.iload_n 1, 1) := by decide +kernel
theorem dX6_tradePartner_23 : decode cX6_tradePartner 23 = .ok (.iload_n 2, 1) := by decide +kernel
theorem dX6_tradePartner_24 : decode cX6_tradePartner 24 = .ok (.invokevirtual 323, 3) := by decide +kernel
theorem dX6_tradePartner_27 : decode cX6_tradePartner 27 = .ok (.ifCond .eq 5, 3) := by decide +kernel
theorem dX6_tradePartner_30 : decode cX6_tradePartner 30 = .ok (.iload_n 2, 1) := by decide +kernel
theorem dX6_tradePartner_31 : decode cX6_tradePartner 31 = .ok (.ireturn, 1) := by decide +kernel
theorem dX6_tradePartner_32 : decode cX6_tradePartner 32 = .ok (.iinc 2 1, 3) := by decide +kernel
theorem dX6_tradePartner_35 : decode cX6_tradePartner 35 = .ok (.goto (-28), 3) := by decide +kernel
theorem dX6_tradePartner_38 : decode cX6_tradePartner 38 = .ok (.iconst (-1), 1) := by decide +kernel
theorem dX6_tradePartner_39 : decode cX6_tradePartner 39 = .ok (.ireturn, 1) := by decide +kernel
theorem dX6_trades_0 : decode cX6_trades 0 = .ok (.iconst 0, 1) := by decide +kernel
theorem dX6_trades_1 : decode cX6_trades 1 = .ok (.istore_n 1, 1) := by decide +kernel
theorem dX6_trades_2 : decode cX6_trades 2 = .ok (.iconst 0, 1) := by decide +kernel
theorem dX6_trades_3 : decode cX6_trades 3 = .ok (.istore_n 2, 1) := by decide +kernel
theorem dX6_trades_4 : decode cX6_trades 4 = .ok (.iload_n 2, 1) := by decide +kernel
theorem dX6_trades_5 : decode cX6_trades 5 = .ok (.aload_n 0, 1) := by decide +kernel
theorem dX6_trades_6 : decode cX6_trades 6 = .ok (.getfield 38, 3) := by decide +kernel
theorem dX6_trades_9 : decode cX6_trades 9 = .ok (.getfield 86, 3) := by decide +kernel
theorem dX6_trades_12 : decode cX6_trades 12 = .ok (.if_icmp .ge 45, 3) := by decide +kernel
theorem dX6_trades_15 : decode cX6_trades 15 = .ok (.iload_n 2, 1) := by decide +kernel
theorem dX6_trades_16 : decode cX6_trades 16 = .ok (.iconst 1, 1) := by decide +kernel
theorem dX6_trades_17 : decode cX6_trades 17 = .ok (.iadd, 1) := by decide +kernel
theorem dX6_trades_18 : decode cX6_trades 18 = .ok (.istore_n 3, 1) := by decide +kernel
theorem dX6_trades_19 : decode cX6_trades 19 = .ok (.iload_n 3, 1) := by decide +kernel
theorem dX6_trades_20 : decode cX6_trades 20 = .ok (.aload_n 0, 1) := by decide +kernel
theorem dX6_trades_21 : decode cX6_trades 21 = .ok (.getfield 38, 3) := by decide +kernel
theorem dX6_trades_24 : decode cX6_trades 24 = .ok (.getfield 86, 3) := by decide +kernel
theorem dX6_trades_27 : decode cX6_trades 27 = .ok (.if_icmp .ge 24, 3) := by decide +kernel
theorem dX6_trades_30 : decode cX6_trades 30 = .ok (.aload_n 0, 1) := by decide +kernel
theorem dX6_trades_31 : decode cX6_trades 31 = .ok (.getfield 38, 3) := by decide +kernel
theorem dX6_trades_34 : decode cX6_trades 34 = .ok (.iload_n 2, 1) := by decide +kernel
theorem dX6_trades_35 : decode cX6_trades 35 = .ok (.iload_n 3, 1) := by decide +kernel
theorem dX6_trades_36 : decode cX6_trades 36 = .ok (.invokevirtual 323, 3) := by decide +kernel
theorem dX6_trades_39 : decode cX6_trades 39 = .ok (.ifCond .eq 6, 3) := by decide +kernel
theorem dX6_trades_42 : decode cX6_trades 42 = .ok (.iinc 1 1, 3) := by decide +kernel
theorem dX6_trades_45 : decode cX6_trades 45 = .ok (.iinc 3 1, 3) := by decide +kernel
theorem dX6_trades_48 : decode cX6_trades 48 = .ok (.goto (-29), 3) := by decide +kernel
theorem dX6_trades_51 : decode cX6_trades 51 = .ok (.iinc 2 1, 3) := by decide +kernel
theorem dX6_trades_54 : decode cX6_trades 54 = .ok (.goto (-50), 3) := by decide +kernel
theorem dX6_trades_57 : decode cX6_trades 57 = .ok (.iload_n 1, 1) := by decide +kernel
theorem dX6_trades_58 : decode cX6_trades 58 = .ok (.ireturn, 1) := by decide +kernel
theorem dX6_holdersOfClass_0 : decode cX6_holdersOfClass 0 = .ok (.aload_n 0, 1) := by decide +kernel
theorem dX6_holdersOfClass_1 : decode cX6_holdersOfClass 1 = .ok (.iload_n 1, 1) := by decide +kernel
theorem dX6_holdersOfClass_2 : decode cX6_holdersOfClass 2 = .ok (.invokevirtual 137, 3) := by decide +kernel
theorem dX6_holdersOfClass_5 : decode cX6_holdersOfClass 5 = .ok (.iconst 0, 1) := by decide +kernel
theorem dX6_holdersOfClass_6 : decode cX6_holdersOfClass 6 = .ok (.istore_n 3, 1) := by decide +kernel
theorem dX6_holdersOfClass_7 : decode cX6_holdersOfClass 7 = .ok (.iconst 0, 1) := by decide +kernel
theorem dX6_holdersOfClass_8 : decode cX6_holdersOfClass 8 = .ok (.istore 4, 2) := by decide +kernel
theorem dX6_holdersOfClass_10 : decode cX6_holdersOfClass 10 = .ok (.iload 4, 2) := by decide +kernel
theorem dX6_holdersOfClass_12 : decode cX6_holdersOfClass 12 = .ok (.aload_n 0, 1) := by decide +kernel
theorem dX6_holdersOfClass_13 : decode cX6_holdersOfClass 13 = .ok (.getfield 38, 3) := by decide +kernel
theorem dX6_holdersOfClass_16 : decode cX6_holdersOfClass 16 = .ok (.getfield 86, 3) := by decide +kernel
theorem dX6_holdersOfClass_19 : decode cX6_holdersOfClass 19 = .ok (.if_icmp .ge 40, 3) := by decide +kernel
theorem dX6_holdersOfClass_22 : decode cX6_holdersOfClass 22 = .ok (.aload_n 0, 1) := by decide +kernel
theorem dX6_holdersOfClass_23 : decode cX6_holdersOfClass 23 = .ok (.getfield 38, 3) := by decide +kernel
theorem dX6_holdersOfClass_26 : decode cX6_holdersOfClass 26 = .ok (.getfield 213, 3) := by decide +kernel
theorem dX6_holdersOfClass_29 : decode cX6_holdersOfClass 29 = .ok (.iload 4, 2) := by decide +kernel
theorem dX6_holdersOfClass_31 : decode cX6_holdersOfClass 31 = .ok (.iaload, 1) := by decide +kernel
theorem dX6_holdersOfClass_32 : decode cX6_holdersOfClass 32 = .ok (.iload_n 1, 1) := by decide +kernel
theorem dX6_holdersOfClass_33 : decode cX6_holdersOfClass 33 = .ok (.if_icmp .ne 20, 3) := by decide +kernel
theorem dX6_holdersOfClass_36 : decode cX6_holdersOfClass 36 = .ok (.aload_n 0, 1) := by decide +kernel
theorem dX6_holdersOfClass_37 : decode cX6_holdersOfClass 37 = .ok (.getfield 38, 3) := by decide +kernel
theorem dX6_holdersOfClass_40 : decode cX6_holdersOfClass 40 = .ok (.iload 4, 2) := by decide +kernel
theorem dX6_holdersOfClass_42 : decode cX6_holdersOfClass 42 = .ok (.iload_n 1, 1) := by decide +kernel
theorem dX6_holdersOfClass_43 : decode cX6_holdersOfClass 43 = .ok (.invokevirtual 223, 3) := by decide +kernel
theorem dX6_holdersOfClass_46 : decode cX6_holdersOfClass 46 = .ok (.iload_n 2, 1) := by decide +kernel
theorem dX6_holdersOfClass_47 : decode cX6_holdersOfClass 47 = .ok (.if_icmp .ne 6, 3) := by decide +kernel
theorem dX6_holdersOfClass_50 : decode cX6_holdersOfClass 50 = .ok (.iinc 3 1, 3) := by decide +kernel
theorem dX6_holdersOfClass_53 : decode cX6_holdersOfClass 53 = .ok (.iinc 4 1, 3) := by decide +kernel
theorem dX6_holdersOfClass_56 : decode cX6_holdersOfClass 56 = .ok (.goto (-46), 3) := by decide +kernel
theorem dX6_holdersOfClass_59 : decode cX6_holdersOfClass 59 = .ok (.iload_n 3, 1) := by decide +kernel
theorem dX6_holdersOfClass_60 : decode cX6_holdersOfClass 60 = .ok (.ireturn, 1) := by decide +kernel
theorem dX6_meanWay_0 : decode cX6_meanWay 0 = .ok (.iconst 0, 1) := by decide +kernel
theorem dX6_meanWay_1 : decode cX6_meanWay 1 = .ok (.istore_n 1, 1) := by decide +kernel
theorem dX6_meanWay_2 : decode cX6_meanWay 2 = .ok (.dconst 0, 1) := by decide +kernel
theorem dX6_meanWay_3 : decode cX6_meanWay 3 = .ok (.dstore_n 2, 1) := by decide +kernel
theorem dX6_meanWay_4 : decode cX6_meanWay 4 = .ok (.iconst 0, 1) := by decide +kernel
theorem dX6_meanWay_5 : decode cX6_meanWay 5 = .ok (.istore 4, 2) := by decide +kernel
theorem dX6_meanWay_7 : decode cX6_meanWay 7 = .ok (.iload 4, 2) := by decide +kernel
theorem dX6_meanWay_9 : decode cX6_meanWay 9 = .ok (.aload_n 0, 1) := by decide +kernel
theorem dX6_meanWay_10 : decode cX6_meanWay 10 = .ok (.getfield 38, 3) := by decide +kernel
theorem dX6_meanWay_13 : decode cX6_meanWay 13 = .ok (.getfield 86, 3) := by decide +kernel
theorem dX6_meanWay_16 : decode cX6_meanWay 16 = .ok (.if_icmp .ge 47, 3) := by decide +kernel
theorem dX6_meanWay_19 : decode cX6_meanWay 19 = .ok (.aload_n 0, 1) := by decide +kernel
theorem dX6_meanWay_20 : decode cX6_meanWay 20 = .ok (.getfield 38, 3) := by decide +kernel
theorem dX6_meanWay_23 : decode cX6_meanWay 23 = .ok (.getfield 213, 3) := by decide +kernel
theorem dX6_meanWay_26 : decode cX6_meanWay 26 = .ok (.iload 4, 2) := by decide +kernel
theorem dX6_meanWay_28 : decode cX6_meanWay 28 = .ok (.iaload, 1) := by decide +kernel
theorem dX6_meanWay_29 : decode cX6_meanWay 29 = .ok (.istore 5, 2) := by decide +kernel
theorem dX6_meanWay_31 : decode cX6_meanWay 31 = .ok (.iload 5, 2) := by decide +kernel
theorem dX6_meanWay_33 : decode cX6_meanWay 33 = .ok (.iconst (-1), 1) := by decide +kernel
theorem dX6_meanWay_34 : decode cX6_meanWay 34 = .ok (.if_icmp .eq 23, 3) := by decide +kernel
theorem dX6_meanWay_37 : decode cX6_meanWay 37 = .ok (.iinc 1 1, 3) := by decide +kernel
theorem dX6_meanWay_40 : decode cX6_meanWay 40 = .ok (.dload_n 2, 1) := by decide +kernel
theorem dX6_meanWay_41 : decode cX6_meanWay 41 = .ok (.aload_n 0, 1) := by decide +kernel
theorem dX6_meanWay_42 : decode cX6_meanWay 42 = .ok (.getfield 38, 3) := by decide +kernel
theorem dX6_meanWay_45 : decode cX6_meanWay 45 = .ok (.iload 4, 2) := by decide +kernel
theorem dX6_meanWay_47 : decode cX6_meanWay 47 = .ok (.iload 5, 2) := by decide +kernel
theorem dX6_meanWay_49 : decode cX6_meanWay 49 = .ok (.invokevirtual 226, 3) := by decide +kernel
theorem dX6_meanWay_52 : decode cX6_meanWay 52 = .ok (.invokestatic 311, 3) := by decide +kernel
theorem dX6_meanWay_55 : decode cX6_meanWay 55 = .ok (.dadd, 1) := by decide +kernel
theorem dX6_meanWay_56 : decode cX6_meanWay 56 = .ok (.dstore_n 2, 1) := by decide +kernel
theorem dX6_meanWay_57 : decode cX6_meanWay 57 = .ok (.iinc 4 1, 3) := by decide +kernel
theorem dX6_meanWay_60 : decode cX6_meanWay 60 = .ok (.goto (-53), 3) := by decide +kernel
theorem dX6_meanWay_63 : decode cX6_meanWay 63 = .ok (.iload_n 1, 1) := by decide +kernel
theorem dX6_meanWay_64 : decode cX6_meanWay 64 = .ok (.ifCond .ne 7, 3) := by decide +kernel
theorem dX6_meanWay_67 : decode cX6_meanWay 67 = .ok (.dconst 0, 1) := by decide +kernel
theorem dX6_meanWay_68 : decode cX6_meanWay 68 = .ok (.goto 7, 3) := by decide +kernel
theorem dX6_meanWay_71 : decode cX6_meanWay 71 = .ok (.dload_n 2, 1) := by decide +kernel
theorem dX6_meanWay_72 : decode cX6_meanWay 72 = .ok (.iload_n 1, 1) := by decide +kernel
theorem dX6_meanWay_73 : decode cX6_meanWay 73 = .ok (.i2d, 1) := by decide +kernel
theorem dX6_meanWay_74 : decode cX6_meanWay 74 = .ok (.ddiv, 1) := by decide +kernel
theorem dX6_meanWay_75 : decode cX6_meanWay 75 = .ok (.dreturn, 1) := by decide +kernel
theorem dX6_mostWaited_0 : decode cX6_mostWaited 0 = .ok (.iconst (-1), 1) := by decide +kernel
theorem dX6_mostWaited_1 : decode cX6_mostWaited 1 = .ok (.istore_n 1, 1) := by decide +kernel
theorem dX6_mostWaited_2 : decode cX6_mostWaited 2 = .ok (.iconst 0, 1) := by decide +kernel
theorem dX6_mostWaited_3 : decode cX6_mostWaited 3 = .ok (.istore_n 2, 1) := by decide +kernel
theorem dX6_mostWaited_4 : decode cX6_mostWaited 4 = .ok (.iconst 0, 1) := by decide +kernel
theorem dX6_mostWaited_5 : decode cX6_mostWaited 5 = .ok (.istore_n 3, 1) := by decide +kernel
theorem dX6_mostWaited_6 : decode cX6_mostWaited 6 = .ok (.iload_n 3, 1) := by decide +kernel
theorem dX6_mostWaited_7 : decode cX6_mostWaited 7 = .ok (.aload_n 0, 1) := by decide +kernel
theorem dX6_mostWaited_8 : decode cX6_mostWaited 8 = .ok (.getfield 38, 3) := by decide +kernel
theorem dX6_mostWaited_11 : decode cX6_mostWaited 11 = .ok (.getfield 42, 3) := by decide +kernel
theorem dX6_mostWaited_14 : decode cX6_mostWaited 14 = .ok (.getfield 92, 3) := by decide +kernel
theorem dX6_mostWaited_17 : decode cX6_mostWaited 17 = .ok (.if_icmp .ge 33, 3) := by decide +kernel
theorem dX6_mostWaited_20 : decode cX6_mostWaited 20 = .ok (.aload_n 0, 1) := by decide +kernel
theorem dX6_mostWaited_21 : decode cX6_mostWaited 21 = .ok (.getfield 38, 3) := by decide +kernel
theorem dX6_mostWaited_24 : decode cX6_mostWaited 24 = .ok (.iload_n 3, 1) := by decide +kernel
theorem dX6_mostWaited_25 : decode cX6_mostWaited 25 = .ok (.invokevirtual 174, 3) := by decide +kernel
theorem dX6_mostWaited_28 : decode cX6_mostWaited 28 = .ok (.invokestatic 102, 3) := by decide +kernel
theorem dX6_mostWaited_31 : decode cX6_mostWaited 31 = .ok (.istore 4, 2) := by decide +kernel
theorem dX6_mostWaited_33 : decode cX6_mostWaited 33 = .ok (.iload 4, 2) := by decide +kernel
theorem dX6_mostWaited_35 : decode cX6_mostWaited 35 = .ok (.iload_n 2, 1) := by decide +kernel
theorem dX6_mostWaited_36 : decode cX6_mostWaited 36 = .ok (.if_icmp .le 8, 3) := by decide +kernel
theorem dX6_mostWaited_39 : decode cX6_mostWaited 39 = .ok (.iload_n 3, 1) := by decide +kernel
theorem dX6_mostWaited_40 : decode cX6_mostWaited 40 = .ok (.istore_n 1, 1) := by decide +kernel
theorem dX6_mostWaited_41 : decode cX6_mostWaited 41 = .ok (.iload 4, 2) := by decide +kernel
theorem dX6_mostWaited_43 : decode cX6_mostWaited 43 = .ok (.istore_n 2, 1) := by decide +kernel
theorem dX6_mostWaited_44 : decode cX6_mostWaited 44 = .ok (.iinc 3 1, 3) := by decide +kernel
theorem dX6_mostWaited_47 : decode cX6_mostWaited 47 = .ok (.goto (-41), 3) := by decide +kernel
theorem dX6_mostWaited_50 : decode cX6_mostWaited 50 = .ok (.iload_n 1, 1) := by decide +kernel
theorem dX6_mostWaited_51 : decode cX6_mostWaited 51 = .ok (.ireturn, 1) := by decide +kernel
theorem dX6_siblings_0 : decode cX6_siblings 0 = .ok (.aload_n 0, 1) := by decide +kernel
theorem dX6_siblings_1 : decode cX6_siblings 1 = .ok (.iload_n 1, 1) := by decide +kernel
theorem dX6_siblings_2 : decode cX6_siblings 2 = .ok (.invokevirtual 188, 3) := by decide +kernel
theorem dX6_siblings_5 : decode cX6_siblings 5 = .ok (.aload_n 0, 1) := by decide +kernel
theorem dX6_siblings_6 : decode cX6_siblings 6 = .ok (.getfield 38, 3) := by decide +kernel
theorem dX6_siblings_9 : decode cX6_siblings 9 = .ok (.getfield 193, 3) := by decide +kernel
theorem dX6_siblings_12 : decode cX6_siblings 12 = .ok (.iload_n 1, 1) := by decide +kernel
theorem dX6_siblings_13 : decode cX6_siblings 13 = .ok (.iaload, 1) := by decide +kernel
theorem dX6_siblings_14 : decode cX6_siblings 14 = .ok (.istore_n 2, 1) := by decide +kernel
theorem dX6_siblings_15 : decode cX6_siblings 15 = .ok (.lconst 0, 1) := by decide +kernel
theorem dX6_siblings_16 : decode cX6_siblings 16 = .ok (.lstore_n 3, 1) := by decide +kernel
theorem dX6_siblings_17 : decode cX6_siblings 17 = .ok (.iconst 0, 1) := by decide +kernel
theorem dX6_siblings_18 : decode cX6_siblings 18 = .ok (.istore 5, 2) := by decide +kernel
theorem dX6_siblings_20 : decode cX6_siblings 20 = .ok (.iload 5, 2) := by decide +kernel
theorem dX6_siblings_22 : decode cX6_siblings 22 = .ok (.aload_n 0, 1) := by decide +kernel
theorem dX6_siblings_23 : decode cX6_siblings 23 = .ok (.getfield 38, 3) := by decide +kernel
theorem dX6_siblings_26 : decode cX6_siblings 26 = .ok (.getfield 86, 3) := by decide +kernel
theorem dX6_siblings_29 : decode cX6_siblings 29 = .ok (.if_icmp .ge 40, 3) := by decide +kernel
theorem dX6_siblings_32 : decode cX6_siblings 32 = .ok (.iload_n 2, 1) := by decide +kernel
theorem dX6_siblings_33 : decode cX6_siblings 33 = .ok (.ifCond .eq 30, 3) := by decide +kernel
theorem dX6_siblings_36 : decode cX6_siblings 36 = .ok (.iload 5, 2) := by decide +kernel
theorem dX6_siblings_38 : decode cX6_siblings 38 = .ok (.iload_n 1, 1) := by decide +kernel
theorem dX6_siblings_39 : decode cX6_siblings 39 = .ok (.if_icmp .eq 24, 3) := by decide +kernel
theorem dX6_siblings_42 : decode cX6_siblings 42 = .ok (.aload_n 0, 1) := by decide +kernel
theorem dX6_siblings_43 : decode cX6_siblings 43 = .ok (.getfield 38, 3) := by decide +kernel
theorem dX6_siblings_46 : decode cX6_siblings 46 = .ok (.getfield 193, 3) := by decide +kernel
theorem dX6_siblings_49 : decode cX6_siblings 49 = .ok (.iload 5, 2) := by decide +kernel
theorem dX6_siblings_51 : decode cX6_siblings 51 = .ok (.iaload, 1) := by decide +kernel
theorem dX6_siblings_52 : decode cX6_siblings 52 = .ok (.iload_n 2, 1) := by decide +kernel
theorem dX6_siblings_53 : decode cX6_siblings 53 = .ok (.if_icmp .ne 10, 3) := by decide +kernel
theorem dX6_siblings_56 : decode cX6_siblings 56 = .ok (.lload_n 3, 1) := by decide +kernel
theorem dX6_siblings_57 : decode cX6_siblings 57 = .ok (.lconst 1, 1) := by decide +kernel
theorem dX6_siblings_58 : decode cX6_siblings 58 = .ok (.iload 5, 2) := by decide +kernel
theorem dX6_siblings_60 : decode cX6_siblings 60 = .ok (.lshl, 1) := by decide +kernel
theorem dX6_siblings_61 : decode cX6_siblings 61 = .ok (.lor, 1) := by decide +kernel
theorem dX6_siblings_62 : decode cX6_siblings 62 = .ok (.lstore_n 3, 1) := by decide +kernel
theorem dX6_siblings_63 : decode cX6_siblings 63 = .ok (.iinc 5 1, 3) := by decide +kernel
theorem dX6_siblings_66 : decode cX6_siblings 66 = .ok (.goto (-46), 3) := by decide +kernel
theorem dX6_siblings_69 : decode cX6_siblings 69 = .ok (.lload_n 3, 1) := by decide +kernel
theorem dX6_siblings_70 : decode cX6_siblings 70 = .ok (.aload_n 0, 1) := by decide +kernel
theorem dX6_siblings_71 : decode cX6_siblings 71 = .ok (.getfield 38, 3) := by decide +kernel
theorem dX6_siblings_74 : decode cX6_siblings 74 = .ok (.getfield 98, 3) := by decide +kernel
theorem dX6_siblings_77 : decode cX6_siblings 77 = .ok (.ldc2_w 326, 3) := by decide +kernel
theorem dX6_siblings_80 : decode cX6_siblings 80 = .ok (.lxor, 1) := by decide +kernel
theorem dX6_siblings_81 : decode cX6_siblings 81 = .ok (.land, 1) := by decide +kernel
theorem dX6_siblings_82 : decode cX6_siblings 82 = .ok (.lreturn, 1) := by decide +kernel
theorem dX6_chainOf_0 : decode cX6_chainOf 0 = .ok (.aload_n 0, 1) := by decide +kernel
theorem dX6_chainOf_1 : decode cX6_chainOf 1 = .ok (.iload_n 1, 1) := by decide +kernel
theorem dX6_chainOf_2 : decode cX6_chainOf 2 = .ok (.invokevirtual 188, 3) := by decide +kernel
theorem dX6_chainOf_5 : decode cX6_chainOf 5 = .ok (.aload_n 0, 1) := by decide +kernel
theorem dX6_chainOf_6 : decode cX6_chainOf 6 = .ok (.getfield 46, 3) := by decide +kernel
theorem dX6_chainOf_9 : decode cX6_chainOf 9 = .ok (.aload_n 0, 1) := by decide +kernel
theorem dX6_chainOf_10 : decode cX6_chainOf 10 = .ok (.getfield 38, 3) := by decide +kernel
theorem dX6_chainOf_13 : decode cX6_chainOf 13 = .ok (.invokevirtual 295, 3) := by decide +kernel
theorem dX6_chainOf_16 : decode cX6_chainOf 16 = .ok (.aload_n 0, 1) := by decide +kernel
theorem dX6_chainOf_17 : decode cX6_chainOf 17 = .ok (.getfield 46, 3) := by decide +kernel
theorem dX6_chainOf_20 : decode cX6_chainOf 20 = .ok (.iload_n 1, 1) := by decide +kernel
theorem dX6_chainOf_21 : decode cX6_chainOf 21 = .ok (.invokevirtual 287, 3) := by decide +kernel
theorem dX6_chainOf_24 : decode cX6_chainOf 24 = .ok (.aload_n 0, 1) := by decide +kernel
theorem dX6_chainOf_25 : decode cX6_chainOf 25 = .ok (.getfield 46, 3) := by decide +kernel
theorem dX6_chainOf_28 : decode cX6_chainOf 28 = .ok (.invokevirtual 282, 3) := by decide +kernel
theorem dX6_chainOf_31 : decode cX6_chainOf 31 = .ok (.aload_n 0, 1) := by decide +kernel
theorem dX6_chainOf_32 : decode cX6_chainOf 32 = .ok (.getfield 46, 3) := by decide +kernel
theorem dX6_chainOf_35 : decode cX6_chainOf 35 = .ok (.getfield 127, 3) := by decide +kernel
theorem dX6_chainOf_38 : decode cX6_chainOf 38 = .ok (.aload_n 0, 1) := by decide +kernel
theorem dX6_chainOf_39 : decode cX6_chainOf 39 = .ok (.getfield 38, 3) := by decide +kernel
theorem dX6_chainOf_42 : decode cX6_chainOf 42 = .ok (.getfield 127, 3) := by decide +kernel
theorem dX6_chainOf_45 : decode cX6_chainOf 45 = .ok (.isub, 1) := by decide +kernel
theorem dX6_chainOf_46 : decode cX6_chainOf 46 = .ok (.ireturn, 1) := by decide +kernel
theorem dX6_triesOf_0 : decode cX6_triesOf 0 = .ok (.aload_n 0, 1) := by decide +kernel
theorem dX6_triesOf_1 : decode cX6_triesOf 1 = .ok (.iload_n 1, 1) := by decide +kernel
theorem dX6_triesOf_2 : decode cX6_triesOf 2 = .ok (.invokevirtual 137, 3) := by decide +kernel
theorem dX6_triesOf_5 : decode cX6_triesOf 5 = .ok (.aload_n 0, 1) := by decide +kernel
theorem dX6_triesOf_6 : decode cX6_triesOf 6 = .ok (.getfield 46, 3) := by decide +kernel
theorem dX6_triesOf_9 : decode cX6_triesOf 9 = .ok (.aload_n 0, 1) := by decide +kernel
theorem dX6_triesOf_10 : decode cX6_triesOf 10 = .ok (.getfield 38, 3) := by decide +kernel
theorem dX6_triesOf_13 : decode cX6_triesOf 13 = .ok (.invokevirtual 295, 3) := by decide +kernel
theorem dX6_triesOf_16 : decode cX6_triesOf 16 = .ok (.aload_n 0, 1) := by decide +kernel
theorem dX6_triesOf_17 : decode cX6_triesOf 17 = .ok (.getfield 19, 3) := by decide +kernel
theorem dX6_triesOf_20 : decode cX6_triesOf 20 = .ok (.aload_n 0, 1) := by decide +kernel
theorem dX6_triesOf_21 : decode cX6_triesOf 21 = .ok (.getfield 46, 3) := by decide +kernel
theorem dX6_triesOf_24 : decode cX6_triesOf 24 = .ok (.invokevirtual 258, 3) := by decide +kernel
theorem dX6_triesOf_27 : decode cX6_triesOf 27 = .ok (.iconst 0, 1) := by decide +kernel
theorem dX6_triesOf_28 : decode cX6_triesOf 28 = .ok (.istore_n 2, 1) := by decide +kernel
theorem dX6_triesOf_29 : decode cX6_triesOf 29 = .ok (.iconst 0, 1) := by decide +kernel
theorem dX6_triesOf_30 : decode cX6_triesOf 30 = .ok (.istore_n 3, 1) := by decide +kernel
theorem dX6_triesOf_31 : decode cX6_triesOf 31 = .ok (.iload_n 3, 1) := by decide +kernel
theorem dX6_triesOf_32 : decode cX6_triesOf 32 = .ok (.aload_n 0, 1) := by decide +kernel
theorem dX6_triesOf_33 : decode cX6_triesOf 33 = .ok (.getfield 46, 3) := by decide +kernel
theorem dX6_triesOf_36 : decode cX6_triesOf 36 = .ok (.getfield 86, 3) := by decide +kernel
theorem dX6_triesOf_39 : decode cX6_triesOf 39 = .ok (.if_icmp .ge 24, 3) := by decide +kernel
theorem dX6_triesOf_42 : decode cX6_triesOf 42 = .ok (.aload_n 0, 1) := by decide +kernel
theorem dX6_triesOf_43 : decode cX6_triesOf 43 = .ok (.getfield 46, 3) := by decide +kernel
theorem dX6_triesOf_46 : decode cX6_triesOf 46 = .ok (.iload_n 3, 1) := by decide +kernel
theorem dX6_triesOf_47 : decode cX6_triesOf 47 = .ok (.iload_n 1, 1) := by decide +kernel
theorem dX6_triesOf_48 : decode cX6_triesOf 48 = .ok (.invokevirtual 328, 3) := by decide +kernel
theorem dX6_triesOf_51 : decode cX6_triesOf 51 = .ok (.ifCond .eq 6, 3) := by decide +kernel
theorem dX6_triesOf_54 : decode cX6_triesOf 54 = .ok (.iinc 2 1, 3) := by decide +kernel
theorem dX6_triesOf_57 : decode cX6_triesOf 57 = .ok (.iinc 3 1, 3) := by decide +kernel
theorem dX6_triesOf_60 : decode cX6_triesOf 60 = .ok (.goto (-29), 3) := by decide +kernel
theorem dX6_triesOf_63 : decode cX6_triesOf 63 = .ok (.iload_n 2, 1) := by decide +kernel
theorem dX6_triesOf_64 : decode cX6_triesOf 64 = .ok (.ireturn, 1) := by decide +kernel
theorem dX6_changedByAllocation_0 : decode cX6_changedByAllocation 0 = .ok (.aload_n 0, 1) := by decide +kernel
theorem dX6_changedByAllocation_1 : decode cX6_changedByAllocation 1 = .ok (.getfield 46, 3) := by decide +kernel
theorem dX6_changedByAllocation_4 : decode cX6_changedByAllocation 4 = .ok (.aload_n 0, 1) := by decide +kernel
theorem dX6_changedByAllocation_5 : decode cX6_changedByAllocation 5 = .ok (.getfield 38, 3) := by decide +kernel
theorem dX6_changedByAllocation_8 : decode cX6_changedByAllocation 8 = .ok (.invokevirtual 295, 3) := by decide +kernel
theorem dX6_changedByAllocation_11 : decode cX6_changedByAllocation 11 = .ok (.aload_n 0, 1) := by decide +kernel
theorem dX6_changedByAllocation_12 : decode cX6_changedByAllocation 12 = .ok (.getfield 19, 3) := by decide +kernel
theorem dX6_changedByAllocation_15 : decode cX6_changedByAllocation 15 = .ok (.aload_n 0, 1) := by decide +kernel
theorem dX6_changedByAllocation_16 : decode cX6_changedByAllocation 16 = .ok (.getfield 46, 3) := by decide +kernel
theorem dX6_changedByAllocation_19 : decode cX6_changedByAllocation 19 = .ok (.invokevirtual 258, 3) := by decide +kernel
theorem dX6_changedByAllocation_22 : decode cX6_changedByAllocation 22 = .ok (.iconst 0, 1) := by decide +kernel
theorem dX6_changedByAllocation_23 : decode cX6_changedByAllocation 23 = .ok (.istore_n 1, 1) := by decide +kernel
theorem dX6_changedByAllocation_24 : decode cX6_changedByAllocation 24 = .ok (.iconst 0, 1) := by decide +kernel
theorem dX6_changedByAllocation_25 : decode cX6_changedByAllocation 25 = .ok (.istore_n 2, 1) := by decide +kernel
theorem dX6_changedByAllocation_26 : decode cX6_changedByAllocation 26 = .ok (.iload_n 2, 1) := by decide +kernel
theorem dX6_changedByAllocation_27 : decode cX6_changedByAllocation 27 = .ok (.aload_n 0, 1) := by decide +kernel
theorem dX6_changedByAllocation_28 : decode cX6_changedByAllocation 28 = .ok (.getfield 38, 3) := by decide +kernel
theorem dX6_changedByAllocation_31 : decode cX6_changedByAllocation 31 = .ok (.getfield 86, 3) := by decide +kernel
theorem dX6_changedByAllocation_34 : decode cX6_changedByAllocation 34 = .ok (.if_icmp .ge 33, 3) := by decide +kernel
theorem dX6_changedByAllocation_37 : decode cX6_changedByAllocation 37 = .ok (.aload_n 0, 1) := by decide +kernel
theorem dX6_changedByAllocation_38 : decode cX6_changedByAllocation 38 = .ok (.getfield 46, 3) := by decide +kernel
theorem dX6_changedByAllocation_41 : decode cX6_changedByAllocation 41 = .ok (.getfield 213, 3) := by decide +kernel
theorem dX6_changedByAllocation_44 : decode cX6_changedByAllocation 44 = .ok (.iload_n 2, 1) := by decide +kernel
theorem dX6_changedByAllocation_45 : decode cX6_changedByAllocation 45 = .ok (.iaload, 1) := by decide +kernel
theorem dX6_changedByAllocation_46 : decode cX6_changedByAllocation 46 = .ok (.aload_n 0, 1) := by decide +kernel
theorem dX6_changedByAllocation_47 : decode cX6_changedByAllocation 47 = .ok (.getfield 38, 3) := by decide +kernel
theorem dX6_changedByAllocation_50 : decode cX6_changedByAllocation 50 = .ok (.getfield 213, 3) := by decide +kernel
theorem dX6_changedByAllocation_53 : decode cX6_changedByAllocation 53 = .ok (.iload_n 2, 1) := by decide +kernel
theorem dX6_changedByAllocation_54 : decode cX6_changedByAllocation 54 = .ok (.iaload, 1) := by decide +kernel
theorem dX6_changedByAllocation_55 : decode cX6_changedByAllocation 55 = .ok (.if_icmp .eq 6, 3) := by decide +kernel
theorem dX6_changedByAllocation_58 : decode cX6_changedByAllocation 58 = .ok (.iinc 1 1, 3) := by decide +kernel
theorem dX6_changedByAllocation_61 : decode cX6_changedByAllocation 61 = .ok (.iinc 2 1, 3) := by decide +kernel
theorem dX6_changedByAllocation_64 : decode cX6_changedByAllocation 64 = .ok (.goto (-38), 3) := by decide +kernel
theorem dX6_changedByAllocation_67 : decode cX6_changedByAllocation 67 = .ok (.iload_n 1, 1) := by decide +kernel
theorem dX6_changedByAllocation_68 : decode cX6_changedByAllocation 68 = .ok (.ireturn, 1) := by decide +kernel
theorem dX6_placeWith_0 : decode cX6_placeWith 0 = .ok (.aload_n 0, 1) := by decide +kernel
theorem dX6_placeWith_1 : decode cX6_placeWith 1 = .ok (.iload_n 1, 1) := by decide +kernel
theorem dX6_placeWith_2 : decode cX6_placeWith 2 = .ok (.invokevirtual 188, 3) := by decide +kernel
theorem dX6_placeWith_5 : decode cX6_placeWith 5 = .ok (.aload_n 0, 1) := by decide +kernel
theorem dX6_placeWith_6 : decode cX6_placeWith 6 = .ok (.iload_n 2, 1) := by decide +kernel
theorem dX6_placeWith_7 : decode cX6_placeWith 7 = .ok (.invokevirtual 137, 3) := by decide +kernel
theorem dX6_placeWith_10 : decode cX6_placeWith 10 = .ok (.iload_n 3, 1) := by decide +kernel
theorem dX6_placeWith_11 : decode cX6_placeWith 11 = .ok (.invokestatic 298, 3) := by decide +kernel
theorem dX6_placeWith_14 : decode cX6_placeWith 14 = .ok (.aload_n 0, 1) := by decide +kernel
theorem dX6_placeWith_15 : decode cX6_placeWith 15 = .ok (.getfield 46, 3) := by decide +kernel
theorem dX6_placeWith_18 : decode cX6_placeWith 18 = .ok (.aload_n 0, 1) := by decide +kernel
theorem dX6_placeWith_19 : decode cX6_placeWith 19 = .ok (.getfield 38, 3) := by decide +kernel
theorem dX6_placeWith_22 : decode cX6_placeWith 22 = .ok (.invokevirtual 295, 3) := by decide +kernel
theorem dX6_placeWith_25 : decode cX6_placeWith 25 = .ok (.aload_n 0, 1) := by decide +kernel
theorem dX6_placeWith_26 : decode cX6_placeWith 26 = .ok (.getfield 46, 3) := by decide +kernel
theorem dX6_placeWith_29 : decode cX6_placeWith 29 = .ok (.getfield 140, 3) := by decide +kernel
theorem dX6_placeWith_32 : decode cX6_placeWith 32 = .ok (.iload_n 2, 1) := by decide +kernel
theorem dX6_placeWith_33 : decode cX6_placeWith 33 = .ok (.iload_n 3, 1) := by decide +kernel
theorem dX6_placeWith_34 : decode cX6_placeWith 34 = .ok (.iastore, 1) := by decide +kernel
theorem dX6_placeWith_35 : decode cX6_placeWith 35 = .ok (.aload_n 0, 1) := by decide +kernel
theorem dX6_placeWith_36 : decode cX6_placeWith 36 = .ok (.getfield 19, 3) := by decide +kernel
theorem dX6_placeWith_39 : decode cX6_placeWith 39 = .ok (.aload_n 0, 1) := by decide +kernel
theorem dX6_placeWith_40 : decode cX6_placeWith 40 = .ok (.getfield 46, 3) := by decide +kernel
theorem dX6_placeWith_43 : decode cX6_placeWith 43 = .ok (.invokevirtual 258, 3) := by decide +kernel
theorem dX6_placeWith_46 : decode cX6_placeWith 46 = .ok (.aload_n 0, 1) := by decide +kernel
theorem dX6_placeWith_47 : decode cX6_placeWith 47 = .ok (.getfield 46, 3) := by decide +kernel
theorem dX6_placeWith_50 : decode cX6_placeWith 50 = .ok (.getfield 213, 3) := by decide +kernel
theorem dX6_placeWith_53 : decode cX6_placeWith 53 = .ok (.iload_n 1, 1) := by decide +kernel
theorem dX6_placeWith_54 : decode cX6_placeWith 54 = .ok (.iaload, 1) := by decide +kernel
theorem dX6_placeWith_55 : decode cX6_placeWith 55 = .ok (.ireturn, 1) := by decide +kernel
theorem dX6_neededCapacity_0 : decode cX6_neededCapacity 0 = .ok (.aload_n 0, 1) := by decide +kernel
theorem dX6_neededCapacity_1 : decode cX6_neededCapacity 1 = .ok (.iload_n 1, 1) := by decide +kernel
theorem dX6_neededCapacity_2 : decode cX6_neededCapacity 2 = .ok (.invokevirtual 188, 3) := by decide +kernel
theorem dX6_neededCapacity_5 : decode cX6_neededCapacity 5 = .ok (.aload_n 0, 1) := by decide +kernel
theorem dX6_neededCapacity_6 : decode cX6_neededCapacity 6 = .ok (.iload_n 2, 1) := by decide +kernel
theorem dX6_neededCapacity_7 : decode cX6_neededCapacity 7 = .ok (.invokevirtual 137, 3) := by decide +kernel
theorem dX6_neededCapacity_10 : decode cX6_neededCapacity 10 = .ok (.aload_n 0, 1) := by decide +kernel
theorem dX6_neededCapacity_11 : decode cX6_neededCapacity 11 = .ok (.getfield 46, 3) := by decide +kernel
theorem dX6_neededCapacity_14 : decode cX6_neededCapacity 14 = .ok (.aload_n 0, 1) := by decide +kernel
theorem dX6_neededCapacity_15 : decode cX6_neededCapacity 15 = .ok (.getfield 38, 3) := by decide +kernel
theorem dX6_neededCapacity_18 : decode cX6_neededCapacity 18 = .ok (.invokevirtual 295, 3) := by decide +kernel
theorem dX6_neededCapacity_21 : decode cX6_neededCapacity 21 = .ok (.iconst 0, 1) := by decide +kernel
theorem dX6_neededCapacity_22 : decode cX6_neededCapacity 22 = .ok (.istore_n 3, 1) := by decide +kernel
theorem dX6_neededCapacity_23 : decode cX6_neededCapacity 23 = .ok (.iload_n 3, 1) := by decide +kernel
theorem dX6_neededCapacity_24 : decode cX6_neededCapacity 24 = .ok (.bipush 40, 2) := by decide +kernel
theorem dX6_neededCapacity_26 : decode cX6_neededCapacity 26 = .ok (.if_icmp .gt 45, 3) := by decide +kernel
theorem dX6_neededCapacity_29 : decode cX6_neededCapacity 29 = .ok (.aload_n 0, 1) := by decide +kernel
theorem dX6_neededCapacity_30 : decode cX6_neededCapacity 30 = .ok (.getfield 46, 3) := by decide +kernel
theorem dX6_neededCapacity_33 : decode cX6_neededCapacity 33 = .ok (.getfield 140, 3) := by decide +kernel
theorem dX6_neededCapacity_36 : decode cX6_neededCapacity 36 = .ok (.iload_n 2, 1) := by decide +kernel
theorem dX6_neededCapacity_37 : decode cX6_neededCapacity 37 = .ok (.iload_n 3, 1) := by decide +kernel
theorem dX6_neededCapacity_38 : decode cX6_neededCapacity 38 = .ok (.iastore, 1) := by decide +kernel
theorem dX6_neededCapacity_39 : decode cX6_neededCapacity 39 = .ok (.aload_n 0, 1) := by decide +kernel
theorem dX6_neededCapacity_40 : decode cX6_neededCapacity 40 = .ok (.getfield 19, 3) := by decide +kernel
theorem dX6_neededCapacity_43 : decode cX6_neededCapacity 43 = .ok (.aload_n 0, 1) := by decide +kernel
theorem dX6_neededCapacity_44 : decode cX6_neededCapacity 44 = .ok (.getfield 46, 3) := by decide +kernel
theorem dX6_neededCapacity_47 : decode cX6_neededCapacity 47 = .ok (.invokevirtual 258, 3) := by decide +kernel
theorem dX6_neededCapacity_50 : decode cX6_neededCapacity 50 = .ok (.aload_n 0, 1) := by decide +kernel
theorem dX6_neededCapacity_51 : decode cX6_neededCapacity 51 = .ok (.getfield 46, 3) := by decide +kernel
theorem dX6_neededCapacity_54 : decode cX6_neededCapacity 54 = .ok (.getfield 213, 3) := by decide +kernel
theorem dX6_neededCapacity_57 : decode cX6_neededCapacity 57 = .ok (.iload_n 1, 1) := by decide +kernel
theorem dX6_neededCapacity_58 : decode cX6_neededCapacity 58 = .ok (.iaload, 1) := by decide +kernel
theorem dX6_neededCapacity_59 : decode cX6_neededCapacity 59 = .ok (.iload_n 2, 1) := by decide +kernel
theorem dX6_neededCapacity_60 : decode cX6_neededCapacity 60 = .ok (.if_icmp .ne 5, 3) := by decide +kernel
theorem dX6_neededCapacity_63 : decode cX6_neededCapacity 63 = .ok (.iload_n 3, 1) := by decide +kernel
theorem dX6_neededCapacity_64 : decode cX6_neededCapacity 64 = .ok (.ireturn, 1) := by decide +kernel
theorem dX6_neededCapacity_65 : decode cX6_neededCapacity 65 = .ok (.iinc 3 1, 3) := by decide +kernel
theorem dX6_neededCapacity_68 : decode cX6_neededCapacity 68 = .ok (.goto (-45), 3) := by decide +kernel
theorem dX6_neededCapacity_71 : decode cX6_neededCapacity 71 = .ok (.iconst (-1), 1) := by decide +kernel
theorem dX6_neededCapacity_72 : decode cX6_neededCapacity 72 = .ok (.ireturn, 1) := by decide +kernel
theorem dX6_gainersWithout_0 : decode cX6_gainersWithout 0 = .ok (.aload_n 0, 1) := by decide +kernel
theorem dX6_gainersWithout_1 : decode cX6_gainersWithout 1 = .ok (.iload_n 1, 1) := by decide +kernel
theorem dX6_gainersWithout_2 : decode cX6_gainersWithout 2 = .ok (.invokevirtual 188, 3) := by decide +kernel
theorem dX6_gainersWithout_5 : decode cX6_gainersWithout 5 = .ok (.aload_n 0, 1) := by decide +kernel
theorem dX6_gainersWithout_6 : decode cX6_gainersWithout 6 = .ok (.getfield 46, 3) := by decide +kernel
theorem dX6_gainersWithout_9 : decode cX6_gainersWithout 9 = .ok (.aload_n 0, 1) := by decide +kernel
theorem dX6_gainersWithout_10 : decode cX6_gainersWithout 10 = .ok (.getfield 38, 3) := by decide +kernel
theorem dX6_gainersWithout_13 : decode cX6_gainersWithout 13 = .ok (.invokevirtual 295, 3) := by decide +kernel
theorem dX6_gainersWithout_16 : decode cX6_gainersWithout 16 = .ok (.aload_n 0, 1) := by decide +kernel
theorem dX6_gainersWithout_17 : decode cX6_gainersWithout 17 = .ok (.getfield 19, 3) := by decide +kernel
theorem dX6_gainersWithout_20 : decode cX6_gainersWithout 20 = .ok (.aload_n 0, 1) := by decide +kernel
theorem dX6_gainersWithout_21 : decode cX6_gainersWithout 21 = .ok (.getfield 46, 3) := by decide +kernel
theorem dX6_gainersWithout_24 : decode cX6_gainersWithout 24 = .ok (.invokevirtual 258, 3) := by decide +kernel
theorem dX6_gainersWithout_27 : decode cX6_gainersWithout 27 = .ok (.aload_n 0, 1) := by decide +kernel
theorem dX6_gainersWithout_28 : decode cX6_gainersWithout 28 = .ok (.getfield 49, 3) := by decide +kernel
theorem dX6_gainersWithout_31 : decode cX6_gainersWithout 31 = .ok (.aload_n 0, 1) := by decide +kernel
theorem dX6_gainersWithout_32 : decode cX6_gainersWithout 32 = .ok (.getfield 38, 3) := by decide +kernel
theorem dX6_gainersWithout_35 : decode cX6_gainersWithout 35 = .ok (.invokevirtual 295, 3) := by decide +kernel
theorem dX6_gainersWithout_38 : decode cX6_gainersWithout 38 = .ok (.aload_n 0, 1) := by decide +kernel
theorem dX6_gainersWithout_39 : decode cX6_gainersWithout 39 = .ok (.getfield 49, 3) := by decide +kernel
theorem dX6_gainersWithout_42 : decode cX6_gainersWithout 42 = .ok (.iload_n 1, 1) := by decide +kernel
theorem dX6_gainersWithout_43 : decode cX6_gainersWithout 43 = .ok (.invokevirtual 287, 3) := by decide +kernel
theorem dX6_gainersWithout_46 : decode cX6_gainersWithout 46 = .ok (.aload_n 0, 1) := by decide +kernel
theorem dX6_gainersWithout_47 : decode cX6_gainersWithout 47 = .ok (.getfield 19, 3) := by decide +kernel
theorem dX6_gainersWithout_50 : decode cX6_gainersWithout 50 = .ok (.aload_n 0, 1) := by decide +kernel
theorem dX6_gainersWithout_51 : decode cX6_gainersWithout 51 = .ok (.getfield 49, 3) := by decide +kernel
theorem dX6_gainersWithout_54 : decode cX6_gainersWithout 54 = .ok (.invokevirtual 258, 3) := by decide +kernel
theorem dX6_gainersWithout_57 : decode cX6_gainersWithout 57 = .ok (.lconst 0, 1) := by decide +kernel
theorem dX6_gainersWithout_58 : decode cX6_gainersWithout 58 = .ok (.lstore_n 2, 1) := by decide +kernel
theorem dX6_gainersWithout_59 : decode cX6_gainersWithout 59 = .ok (.iconst 0, 1) := by decide +kernel
theorem dX6_gainersWithout_60 : decode cX6_gainersWithout 60 = .ok (.istore 4, 2) := by decide +kernel
theorem dX6_gainersWithout_62 : decode cX6_gainersWithout 62 = .ok (.iload 4, 2) := by decide +kernel
theorem dX6_gainersWithout_64 : decode cX6_gainersWithout 64 = .ok (.aload_n 0, 1) := by decide +kernel
theorem dX6_gainersWithout_65 : decode cX6_gainersWithout 65 = .ok (.getfield 38, 3) := by decide +kernel
theorem dX6_gainersWithout_68 : decode cX6_gainersWithout 68 = .ok (.getfield 86, 3) := by decide +kernel
theorem dX6_gainersWithout_71 : decode cX6_gainersWithout 71 = .ok (.if_icmp .ge 57, 3) := by decide +kernel
theorem dX6_gainersWithout_74 : decode cX6_gainersWithout 74 = .ok (.aload_n 0, 1) := by decide +kernel
theorem dX6_gainersWithout_75 : decode cX6_gainersWithout 75 = .ok (.getfield 49, 3) := by decide +kernel
theorem dX6_gainersWithout_78 : decode cX6_gainersWithout 78 = .ok (.iload 4, 2) := by decide +kernel
theorem dX6_gainersWithout_80 : decode cX6_gainersWithout 80 = .ok (.invokevirtual 216, 3) := by decide +kernel
theorem dX6_gainersWithout_83 : decode cX6_gainersWithout 83 = .ok (.istore 5, 2) := by decide +kernel
theorem dX6_gainersWithout_85 : decode cX6_gainersWithout 85 = .ok (.aload_n 0, 1) := by decide +kernel
theorem dX6_gainersWithout_86 : decode cX6_gainersWithout 86 = .ok (.getfield 46, 3) := by decide +kernel
theorem dX6_gainersWithout_89 : decode cX6_gainersWithout 89 = .ok (.iload 4, 2) := by decide +kernel
theorem dX6_gainersWithout_91 : decode cX6_gainersWithout 91 = .ok (.invokevirtual 216, 3) := by decide +kernel
theorem dX6_gainersWithout_94 : decode cX6_gainersWithout 94 = .ok (.istore 6, 2) := by decide +kernel
theorem dX6_gainersWithout_96 : decode cX6_gainersWithout 96 = .ok (.iload 5, 2) := by decide +kernel
theorem dX6_gainersWithout_98 : decode cX6_gainersWithout 98 = .ok (.iconst (-1), 1) := by decide +kernel
theorem dX6_gainersWithout_99 : decode cX6_gainersWithout 99 = .ok (.if_icmp .eq 23, 3) := by decide +kernel
theorem dX6_gainersWithout_102 : decode cX6_gainersWithout 102 = .ok (.iload 6, 2) := by decide +kernel
theorem dX6_gainersWithout_104 : decode cX6_gainersWithout 104 = .ok (.iconst (-1), 1) := by decide +kernel
theorem dX6_gainersWithout_105 : decode cX6_gainersWithout 105 = .ok (.if_icmp .eq 10, 3) := by decide +kernel
theorem dX6_gainersWithout_108 : decode cX6_gainersWithout 108 = .ok (.iload 5, 2) := by decide +kernel
theorem dX6_gainersWithout_110 : decode cX6_gainersWithout 110 = .ok (.iload 6, 2) := by decide +kernel
theorem dX6_gainersWithout_112 : decode cX6_gainersWithout 112 = .ok (.if_icmp .ge 10, 3) := by decide +kernel
theorem dX6_gainersWithout_115 : decode cX6_gainersWithout 115 = .ok (.lload_n 2, 1) := by decide +kernel
theorem dX6_gainersWithout_116 : decode cX6_gainersWithout 116 = .ok (.lconst 1, 1) := by decide +kernel
theorem dX6_gainersWithout_117 : decode cX6_gainersWithout 117 = .ok (.iload 4, 2) := by decide +kernel
theorem dX6_gainersWithout_119 : decode cX6_gainersWithout 119 = .ok (.lshl, 1) := by decide +kernel
theorem dX6_gainersWithout_120 : decode cX6_gainersWithout 120 = .ok (.lor, 1) := by decide +kernel
theorem dX6_gainersWithout_121 : decode cX6_gainersWithout 121 = .ok (.lstore_n 2, 1) := by decide +kernel
theorem dX6_gainersWithout_122 : decode cX6_gainersWithout 122 = .ok (.iinc 4 1, 3) := by decide +kernel
theorem dX6_gainersWithout_125 : decode cX6_gainersWithout 125 = .ok (.goto (-63), 3) := by decide +kernel
theorem dX6_gainersWithout_128 : decode cX6_gainersWithout 128 = .ok (.lload_n 2, 1) := by decide +kernel
theorem dX6_gainersWithout_129 : decode cX6_gainersWithout 129 = .ok (.lreturn, 1) := by decide +kernel
theorem dX6_bestByOrder_0 : decode cX6_bestByOrder 0 = .ok (.aload_n 0, 1) := by decide +kernel
theorem dX6_bestByOrder_1 : decode cX6_bestByOrder 1 = .ok (.iload_n 1, 1) := by decide +kernel
theorem dX6_bestByOrder_2 : decode cX6_bestByOrder 2 = .ok (.invokevirtual 188, 3) := by decide +kernel
theorem dX6_bestByOrder_5 : decode cX6_bestByOrder 5 = .ok (.aload_n 0, 1) := by decide +kernel
theorem dX6_bestByOrder_6 : decode cX6_bestByOrder 6 = .ok (.getfield 46, 3) := by decide +kernel
theorem dX6_bestByOrder_9 : decode cX6_bestByOrder 9 = .ok (.aload_n 0, 1) := by decide +kernel
theorem dX6_bestByOrder_10 : decode cX6_bestByOrder 10 = .ok (.getfield 38, 3) := by decide +kernel
theorem dX6_bestByOrder_13 : decode cX6_bestByOrder 13 = .ok (.invokevirtual 295, 3) := by decide +kernel
theorem dX6_bestByOrder_16 : decode cX6_bestByOrder 16 = .ok (.aload_n 0, 1) := by decide +kernel
theorem dX6_bestByOrder_17 : decode cX6_bestByOrder 17 = .ok (.getfield 19, 3) := by decide +kernel
theorem dX6_bestByOrder_20 : decode cX6_bestByOrder 20 = .ok (.aload_n 0, 1) := by decide +kernel
theorem dX6_bestByOrder_21 : decode cX6_bestByOrder 21 = .ok (.getfield 46, 3) := by decide +kernel
theorem dX6_bestByOrder_24 : decode cX6_bestByOrder 24 = .ok (.invokevirtual 258, 3) := by decide +kernel
theorem dX6_bestByOrder_27 : decode cX6_bestByOrder 27 = .ok (.aload_n 0, 1) := by decide +kernel
theorem dX6_bestByOrder_28 : decode cX6_bestByOrder 28 = .ok (.getfield 46, 3) := by decide +kernel
theorem dX6_bestByOrder_31 : decode cX6_bestByOrder 31 = .ok (.iload_n 1, 1) := by decide +kernel
theorem dX6_bestByOrder_32 : decode cX6_bestByOrder 32 = .ok (.invokevirtual 216, 3) := by decide +kernel
theorem dX6_bestByOrder_35 : decode cX6_bestByOrder 35 = .ok (.ireturn, 1) := by decide +kernel
theorem dX6_printSchool_0 : decode cX6_printSchool 0 = .ok (.aload_n 0, 1) := by decide +kernel
theorem dX6_printSchool_1 : decode cX6_printSchool 1 = .ok (.iload_n 1, 1) := by decide +kernel
theorem dX6_printSchool_2 : decode cX6_printSchool 2 = .ok (.invokevirtual 137, 3) := by decide +kernel
theorem dX6_printSchool_5 : decode cX6_printSchool 5 = .ok (.aload_n 0, 1) := by decide +kernel
theorem dX6_printSchool_6 : decode cX6_printSchool 6 = .ok (.getfield 26, 3) := by decide +kernel
theorem dX6_printSchool_9 : decode cX6_printSchool 9 = .ok (.invokevirtual 331, 3) := by decide +kernel
theorem dX6_printSchool_12 : decode cX6_printSchool 12 = .ok (.aload_n 0, 1) := by decide +kernel
theorem dX6_printSchool_13 : decode cX6_printSchool 13 = .ok (.getfield 26, 3) := by decide +kernel
theorem dX6_printSchool_16 : decode cX6_printSchool 16 = .ok (.aload_n 0, 1) := by decide +kernel
theorem dX6_printSchool_17 : decode cX6_printSchool 17 = .ok (.getfield 38, 3) := by decide +kernel
theorem dX6_printSchool_20 : decode cX6_printSchool 20 = .ok (.getfield 42, 3) := by decide +kernel
theorem dX6_printSchool_23 : decode cX6_printSchool 23 = .ok (.getfield 334, 3) := by decide +kernel
theorem dX6_printSchool_26 : decode cX6_printSchool 26 = .ok (.iload_n 1, 1) := by decide +kernel
theorem dX6_printSchool_27 : decode cX6_printSchool 27 = .ok (.iaload, 1) := by decide +kernel
theorem dX6_printSchool_28 : decode cX6_printSchool 28 = .ok (.invokevirtual 337, 3) := by decide +kernel
theorem dX6_printSchool_31 : decode cX6_printSchool 31 = .ok (.aload_n 0, 1) := by decide +kernel
theorem dX6_printSchool_32 : decode cX6_printSchool 32 = .ok (.getfield 26, 3) := by decide +kernel
theorem dX6_printSchool_35 : decode cX6_printSchool 35 = .ok (.bipush 58, 2) := by decide +kernel
theorem dX6_printSchool_37 : decode cX6_printSchool 37 = .ok (.invokevirtual 340, 3) := by decide +kernel
theorem dX6_printSchool_40 : decode cX6_printSchool 40 = .ok (.aload_n 0, 1) := by decide +kernel
theorem dX6_printSchool_41 : decode cX6_printSchool 41 = .ok (.aload_n 0, 1) := by decide +kernel
theorem dX6_printSchool_42 : decode cX6_printSchool 42 = .ok (.getfield 38, 3) := by decide +kernel
theorem dX6_printSchool_45 : decode cX6_printSchool 45 = .ok (.iload_n 1, 1) := by decide +kernel
theorem dX6_printSchool_46 : decode cX6_printSchool 46 = .ok (.invokevirtual 164, 3) := by decide +kernel
theorem dX6_printSchool_49 : decode cX6_printSchool 49 = .ok (.iload_n 1, 1) := by decide +kernel
theorem dX6_printSchool_50 : decode cX6_printSchool 50 = .ok (.invokevirtual 343, 3) := by decide +kernel
theorem dX6_printSchool_53 : decode cX6_printSchool 53 = .ok (.aload_n 0, 1) := by decide +kernel
theorem dX6_printSchool_54 : decode cX6_printSchool 54 = .ok (.getfield 26, 3) := by decide +kernel
theorem dX6_printSchool_57 : decode cX6_printSchool 57 = .ok (.bipush 47, 2) := by decide +kernel
theorem dX6_printSchool_59 : decode cX6_printSchool 59 = .ok (.invokevirtual 340, 3) := by decide +kernel
theorem dX6_printSchool_62 : decode cX6_printSchool 62 = .ok (.aload_n 0, 1) := by decide +kernel
theorem dX6_printSchool_63 : decode cX6_printSchool 63 = .ok (.aload_n 0, 1) := by decide +kernel
theorem dX6_printSchool_64 : decode cX6_printSchool 64 = .ok (.getfield 38, 3) := by decide +kernel
theorem dX6_printSchool_67 : decode cX6_printSchool 67 = .ok (.iload_n 1, 1) := by decide +kernel
theorem dX6_printSchool_68 : decode cX6_printSchool 68 = .ok (.invokevirtual 174, 3) := by decide +kernel
theorem dX6_printSchool_71 : decode cX6_printSchool 71 = .ok (.iload_n 1, 1) := by decide +kernel
theorem dX6_printSchool_72 : decode cX6_printSchool 72 = .ok (.invokevirtual 343, 3) := by decide +kernel
theorem dX6_printSchool_75 : decode cX6_printSchool 75 = .ok (.aload_n 0, 1) := by decide +kernel
theorem dX6_printSchool_76 : decode cX6_printSchool 76 = .ok (.getfield 26, 3) := by decide +kernel
theorem dX6_printSchool_79 : decode cX6_printSchool 79 = .ok (.getfield 347, 3) := by decide +kernel
theorem dX6_printSchool_82 : decode cX6_printSchool 82 = .ok (.ireturn, 1) := by decide +kernel
theorem dX6_outputByte_0 : decode cX6_outputByte 0 = .ok (.iload_n 1, 1) := by decide +kernel
theorem dX6_outputByte_1 : decode cX6_outputByte 1 = .ok (.ifCond .lt 14, 3) := by decide +kernel
theorem dX6_outputByte_4 : decode cX6_outputByte 4 = .ok (.iload_n 1, 1) := by decide +kernel
theorem dX6_outputByte_5 : decode cX6_outputByte 5 = .ok (.aload_n 0, 1) := by decide +kernel
theorem dX6_outputByte_6 : decode cX6_outputByte 6 = .ok (.getfield 26, 3) := by decide +kernel
theorem dX6_outputByte_9 : decode cX6_outputByte 9 = .ok (.getfield 347, 3) := by decide +kernel
theorem dX6_outputByte_12 : decode cX6_outputByte 12 = .ok (.if_icmp .lt 7, 3) := by decide +kernel
theorem dX6_outputByte_15 : decode cX6_outputByte 15 = .ok (.iconst (-1), 1) := by decide +kernel
theorem dX6_outputByte_16 : decode cX6_outputByte 16 = .ok (.goto 12, 3) := by decide +kernel
theorem dX6_outputByte_19 : decode cX6_outputByte 19 = .ok (.aload_n 0, 1) := by decide +kernel
theorem dX6_outputByte_20 : decode cX6_outputByte 20 = .ok (.getfield 26, 3) := by decide +kernel
theorem dX6_outputByte_23 : decode cX6_outputByte 23 = .ok (.getfield 348, 3) := by decide +kernel
theorem dX6_outputByte_26 : decode cX6_outputByte 26 = .ok (.iload_n 1, 1) := by decide +kernel
theorem dX6_outputByte_27 : decode cX6_outputByte 27 = .ok (.baload, 1) := by decide +kernel
theorem dX6_outputByte_28 : decode cX6_outputByte 28 = .ok (.ireturn, 1) := by decide +kernel
theorem dX6_undo_0 : decode cX6_undo 0 = .ok (.aload_n 0, 1) := by decide +kernel
theorem dX6_undo_1 : decode cX6_undo 1 = .ok (.getfield 67, 3) := by decide +kernel
theorem dX6_undo_4 : decode cX6_undo 4 = .ok (.ifCond .ne 5, 3) := by decide +kernel
theorem dX6_undo_7 : decode cX6_undo 7 = .ok (.iconst (-1), 1) := by decide +kernel
theorem dX6_undo_8 : decode cX6_undo 8 = .ok (.ireturn, 1) := by decide +kernel
theorem dX6_undo_9 : decode cX6_undo 9 = .ok (.aload_n 0, 1) := by decide +kernel
theorem dX6_undo_10 : decode cX6_undo 10 = .ok (.aload_n 0, 1) := by decide +kernel
theorem dX6_undo_11 : decode cX6_undo 11 = .ok (.getfield 63, 3) := by decide +kernel
theorem dX6_undo_14 : decode cX6_undo 14 = .ok (.ifCond .ne 8, 3) := by decide +kernel
theorem dX6_undo_17 : decode cX6_undo 17 = .ok (.bipush 9, 2) := by decide +kernel
theorem dX6_undo_19 : decode cX6_undo 19 = .ok (.goto 9, 3) := by decide +kernel
theorem dX6_undo_22 : decode cX6_undo 22 = .ok (.aload_n 0, 1) := by decide +kernel
theorem dX6_undo_23 : decode cX6_undo 23 = .ok (.getfield 63, 3) := by decide +kernel
theorem dX6_undo_26 : decode cX6_undo 26 = .ok (.iconst 1, 1) := by decide +kernel
theorem dX6_undo_27 : decode cX6_undo 27 = .ok (.isub, 1) := by decide +kernel
theorem dX6_undo_28 : decode cX6_undo 28 = .ok (.putfield 63, 3) := by decide +kernel
theorem dX6_undo_31 : decode cX6_undo 31 = .ok (.aload_n 0, 1) := by decide +kernel
theorem dX6_undo_32 : decode cX6_undo 32 = .ok (.dup, 1) := by decide +kernel
theorem dX6_undo_33 : decode cX6_undo 33 = .ok (.getfield 67, 3) := by decide +kernel
theorem dX6_undo_36 : decode cX6_undo 36 = .ok (.iconst 1, 1) := by decide +kernel
theorem dX6_undo_37 : decode cX6_undo 37 = .ok (.isub, 1) := by decide +kernel
theorem dX6_undo_38 : decode cX6_undo 38 = .ok (.putfield 67, 3) := by decide +kernel
theorem dX6_undo_41 : decode cX6_undo 41 = .ok (.aload_n 0, 1) := by decide +kernel
theorem dX6_undo_42 : decode cX6_undo 42 = .ok (.getfield 38, 3) := by decide +kernel
theorem dX6_undo_45 : decode cX6_undo 45 = .ok (.aload_n 0, 1) := by decide +kernel
theorem dX6_undo_46 : decode cX6_undo 46 = .ok (.getfield 59, 3) := by decide +kernel
theorem dX6_undo_49 : decode cX6_undo 49 = .ok (.aload_n 0, 1) := by decide +kernel
theorem dX6_undo_50 : decode cX6_undo 50 = .ok (.getfield 63, 3) := by decide +kernel
theorem dX6_undo_53 : decode cX6_undo 53 = .ok (.aaload, 1) := by decide +kernel
theorem dX6_undo_54 : decode cX6_undo 54 = .ok (.invokevirtual 295, 3) := by decide +kernel
theorem dX6_undo_57 : decode cX6_undo 57 = .ok (.aload_n 0, 1) := by decide +kernel
theorem dX6_undo_58 : decode cX6_undo 58 = .ok (.getfield 67, 3) := by decide +kernel
theorem dX6_undo_61 : decode cX6_undo 61 = .ok (.ireturn, 1) := by decide +kernel
theorem dX6_saveState_0 : decode cX6_saveState 0 = .ok (.aload_n 0, 1) := by decide +kernel
theorem dX6_saveState_1 : decode cX6_saveState 1 = .ok (.getfield 52, 3) := by decide +kernel
theorem dX6_saveState_4 : decode cX6_saveState 4 = .ok (.aload_n 0, 1) := by decide +kernel
theorem dX6_saveState_5 : decode cX6_saveState 5 = .ok (.getfield 38, 3) := by decide +kernel
theorem dX6_saveState_8 : decode cX6_saveState 8 = .ok (.invokevirtual 295, 3) := by decide +kernel
theorem dX6_saveState_11 : decode cX6_saveState 11 = .ok (.aload_n 0, 1) := by decide +kernel
theorem dX6_saveState_12 : decode cX6_saveState 12 = .ok (.iconst 1, 1) := by decide +kernel
theorem dX6_saveState_13 : decode cX6_saveState 13 = .ok (.putfield 55, 3) := by decide +kernel
theorem dX6_saveState_16 : decode cX6_saveState 16 = .ok (.aload_n 0, 1) := by decide +kernel
theorem dX6_saveState_17 : decode cX6_saveState 17 = .ok (.getfield 38, 3) := by decide +kernel
theorem dX6_saveState_20 : decode cX6_saveState 20 = .ok (.getfield 86, 3) := by decide +kernel
theorem dX6_saveState_23 : decode cX6_saveState 23 = .ok (.ireturn, 1) := by decide +kernel
theorem dX6_restoreState_0 : decode cX6_restoreState 0 = .ok (.aload_n 0, 1) := by decide +kernel
theorem dX6_restoreState_1 : decode cX6_restoreState 1 = .ok (.getfield 55, 3) := by decide +kernel
theorem dX6_restoreState_4 : decode cX6_restoreState 4 = .ok (.ifCond .ne 14, 3) := by decide +kernel
theorem dX6_restoreState_7 : decode cX6_restoreState 7 = .ok (.new 273, 3) := by decide +kernel
theorem dX6_restoreState_10 : decode cX6_restoreState 10 = .ok (.dup, 1) := by decide +kernel
theorem dX6_restoreState_11 : decode cX6_restoreState 11 = .ok (.ldc_w 352, 3) := by decide +kernel
theorem dX6_restoreState_14 : decode cX6_restoreState 14 = .ok (.invokespecial 277, 3) := by decide +kernel
theorem dX6_restoreState_17 : decode cX6_restoreState 17 = .ok (.athrow, 1) := by decide +kernel
theorem dX6_restoreState_18 : decode cX6_restoreState 18 = .ok (.aload_n 0, 1) := by decide +kernel
theorem dX6_restoreState_19 : decode cX6_restoreState 19 = .ok (.getfield 38, 3) := by decide +kernel
theorem dX6_restoreState_22 : decode cX6_restoreState 22 = .ok (.aload_n 0, 1) := by decide +kernel
theorem dX6_restoreState_23 : decode cX6_restoreState 23 = .ok (.getfield 52, 3) := by decide +kernel
theorem dX6_restoreState_26 : decode cX6_restoreState 26 = .ok (.invokevirtual 295, 3) := by decide +kernel
theorem dX6_restoreState_29 : decode cX6_restoreState 29 = .ok (.aload_n 0, 1) := by decide +kernel
theorem dX6_restoreState_30 : decode cX6_restoreState 30 = .ok (.iconst 0, 1) := by decide +kernel
theorem dX6_restoreState_31 : decode cX6_restoreState 31 = .ok (.putfield 67, 3) := by decide +kernel
theorem dX6_restoreState_34 : decode cX6_restoreState 34 = .ok (.aload_n 0, 1) := by decide +kernel
theorem dX6_restoreState_35 : decode cX6_restoreState 35 = .ok (.getfield 38, 3) := by decide +kernel
theorem dX6_restoreState_38 : decode cX6_restoreState 38 = .ok (.getfield 86, 3) := by decide +kernel
theorem dX6_restoreState_41 : decode cX6_restoreState 41 = .ok (.ireturn, 1) := by decide +kernel
theorem dX6_needSchool_0 : decode cX6_needSchool 0 = .ok (.iload_n 1, 1) := by decide +kernel
theorem dX6_needSchool_1 : decode cX6_needSchool 1 = .ok (.ifCond .lt 17, 3) := by decide +kernel
theorem dX6_needSchool_4 : decode cX6_needSchool 4 = .ok (.iload_n 1, 1) := by decide +kernel
theorem dX6_needSchool_5 : decode cX6_needSchool 5 = .ok (.aload_n 0, 1) := by decide +kernel
theorem dX6_needSchool_6 : decode cX6_needSchool 6 = .ok (.getfield 38, 3) := by decide +kernel
theorem dX6_needSchool_9 : decode cX6_needSchool 9 = .ok (.getfield 42, 3) := by decide +kernel
theorem dX6_needSchool_12 : decode cX6_needSchool 12 = .ok (.getfield 92, 3) := by decide +kernel
theorem dX6_needSchool_15 : decode cX6_needSchool 15 = .ok (.if_icmp .lt 14, 3) := by decide +kernel
theorem dX6_needSchool_18 : decode cX6_needSchool 18 = .ok (.new 354, 3) := by decide +kernel
theorem dX6_needSchool_21 : decode cX6_needSchool 21 = .ok (.dup, 1) := by decide +kernel
theorem dX6_needSchool_22 : decode cX6_needSchool 22 = .ok (.ldc_w 356, 3) := by decide +kernel
theorem dX6_needSchool_25 : decode cX6_needSchool 25 = .ok (.invokespecial 358, 3) := by decide +kernel
theorem dX6_needSchool_28 : decode cX6_needSchool 28 = .ok (.athrow, 1) := by decide +kernel
theorem dX6_needSchool_29 : decode cX6_needSchool 29 = .ok (.return_, 1) := by decide +kernel
theorem dX6_needChild_0 : decode cX6_needChild 0 = .ok (.iload_n 1, 1) := by decide +kernel
theorem dX6_needChild_1 : decode cX6_needChild 1 = .ok (.ifCond .lt 14, 3) := by decide +kernel
theorem dX6_needChild_4 : decode cX6_needChild 4 = .ok (.iload_n 1, 1) := by decide +kernel
theorem dX6_needChild_5 : decode cX6_needChild 5 = .ok (.aload_n 0, 1) := by decide +kernel
theorem dX6_needChild_6 : decode cX6_needChild 6 = .ok (.getfield 38, 3) := by decide +kernel
theorem dX6_needChild_9 : decode cX6_needChild 9 = .ok (.getfield 86, 3) := by decide +kernel
theorem dX6_needChild_12 : decode cX6_needChild 12 = .ok (.if_icmp .lt 14, 3) := by decide +kernel
theorem dX6_needChild_15 : decode cX6_needChild 15 = .ok (.new 354, 3) := by decide +kernel
theorem dX6_needChild_18 : decode cX6_needChild 18 = .ok (.dup, 1) := by decide +kernel
theorem dX6_needChild_19 : decode cX6_needChild 19 = .ok (.ldc_w 359, 3) := by decide +kernel
theorem dX6_needChild_22 : decode cX6_needChild 22 = .ok (.invokespecial 358, 3) := by decide +kernel
theorem dX6_needChild_25 : decode cX6_needChild 25 = .ok (.athrow, 1) := by decide +kernel
theorem dX6_needChild_26 : decode cX6_needChild 26 = .ok (.return_, 1) := by decide +kernel
theorem dX6_needHome_0 : decode cX6_needHome 0 = .ok (.iload_n 0, 1) := by decide +kernel
theorem dX6_needHome_1 : decode cX6_needHome 1 = .ok (.ifCond .lt 19, 3) := by decide +kernel
theorem dX6_needHome_4 : decode cX6_needHome 4 = .ok (.iload_n 0, 1) := by decide +kernel
theorem dX6_needHome_5 : decode cX6_needHome 5 = .ok (.bipush 99, 2) := by decide +kernel
theorem dX6_needHome_7 : decode cX6_needHome 7 = .ok (.if_icmp .gt 13, 3) := by decide +kernel
theorem dX6_needHome_10 : decode cX6_needHome 10 = .ok (.iload_n 1, 1) := by decide +kernel
theorem dX6_needHome_11 : decode cX6_needHome 11 = .ok (.ifCond .lt 9, 3) := by decide +kernel
theorem dX6_needHome_14 : decode cX6_needHome 14 = .ok (.iload_n 1, 1) := by decide +kernel
theorem dX6_needHome_15 : decode cX6_needHome 15 = .ok (.bipush 99, 2) := by decide +kernel
theorem dX6_needHome_17 : decode cX6_needHome 17 = .ok (.if_icmp .le 14, 3) := by decide +kernel
theorem dX6_needHome_20 : decode cX6_needHome 20 = .ok (.new 130, 3) := by decide +kernel
theorem dX6_needHome_23 : decode cX6_needHome 23 = .ok (.dup, 1) := by decide +kernel
theorem dX6_needHome_24 : decode cX6_needHome 24 = .ok (.ldc_w 361, 3) := by decide +kernel
theorem dX6_needHome_27 : decode cX6_needHome 27 = .ok (.invokespecial 134, 3) := by decide +kernel
theorem dX6_needHome_30 : decode cX6_needHome 30 = .ok (.athrow, 1) := by decide +kernel
theorem dX6_needHome_31 : decode cX6_needHome 31 = .ok (.return_, 1) := by decide +kernel
theorem dX6_needCapacity_0 : decode cX6_needCapacity 0 = .ok (.iload_n 0, 1) := by decide +kernel
theorem dX6_needCapacity_1 : decode cX6_needCapacity 1 = .ok (.ifCond .lt 9, 3) := by decide +kernel
theorem dX6_needCapacity_4 : decode cX6_needCapacity 4 = .ok (.iload_n 0, 1) := by decide +kernel
theorem dX6_needCapacity_5 : decode cX6_needCapacity 5 = .ok (.bipush 40, 2) := by decide +kernel
theorem dX6_needCapacity_7 : decode cX6_needCapacity 7 = .ok (.if_icmp .le 14, 3) := by decide +kernel
theorem dX6_needCapacity_10 : decode cX6_needCapacity 10 = .ok (.new 130, 3) := by decide +kernel
theorem dX6_needCapacity_13 : decode cX6_needCapacity 13 = .ok (.dup, 1) := by decide +kernel
theorem dX6_needCapacity_14 : decode cX6_needCapacity 14 = .ok (.ldc_w 363, 3) := by decide +kernel
theorem dX6_needCapacity_17 : decode cX6_needCapacity 17 = .ok (.invokespecial 134, 3) := by decide +kernel
theorem dX6_needCapacity_20 : decode cX6_needCapacity 20 = .ok (.athrow, 1) := by decide +kernel
theorem dX6_needCapacity_21 : decode cX6_needCapacity 21 = .ok (.return_, 1) := by decide +kernel
theorem dX6_wishRow_0 : decode cX6_wishRow 0 = .ok (.iload_n 1, 1) := by decide +kernel
theorem dX6_wishRow_1 : decode cX6_wishRow 1 = .ok (.iconst 1, 1) := by decide +kernel
theorem dX6_wishRow_2 : decode cX6_wishRow 2 = .ok (.if_icmp .lt 10, 3) := by decide +kernel
theorem dX6_wishRow_5 : decode cX6_wishRow 5 = .ok (.iload_n 1, 1) := by decide +kernel
theorem dX6_wishRow_6 : decode cX6_wishRow 6 = .ok (.sipush 9999, 3) := by decide +kernel
theorem dX6_wishRow_9 : decode cX6_wishRow 9 = .ok (.if_icmp .le 5, 3) := by decide +kernel
theorem dX6_wishRow_12 : decode cX6_wishRow 12 = .ok (.iconst (-1), 1) := by decide +kernel
theorem dX6_wishRow_13 : decode cX6_wishRow 13 = .ok (.ireturn, 1) := by decide +kernel
theorem dX6_wishRow_14 : decode cX6_wishRow 14 = .ok (.iconst 0, 1) := by decide +kernel
theorem dX6_wishRow_15 : decode cX6_wishRow 15 = .ok (.istore_n 2, 1) := by decide +kernel
theorem dX6_wishRow_16 : decode cX6_wishRow 16 = .ok (.iload_n 1, 1) := by decide +kernel
theorem dX6_wishRow_17 : decode cX6_wishRow 17 = .ok (.istore_n 3, 1) := by decide +kernel
theorem dX6_wishRow_18 : decode cX6_wishRow 18 = .ok (.iload_n 3, 1) := by decide +kernel
theorem dX6_wishRow_19 : decode cX6_wishRow 19 = .ok (.ifCond .le 60, 3) := by decide +kernel
theorem dX6_wishRow_22 : decode cX6_wishRow 22 = .ok (.iload_n 3, 1) := by decide +kernel
theorem dX6_wishRow_23 : decode cX6_wishRow 23 = .ok (.bipush 10, 2) := by decide +kernel
theorem dX6_wishRow_25 : decode cX6_wishRow 25 = .ok (.irem, 1) := by decide +kernel
theorem dX6_wishRow_26 : decode cX6_wishRow 26 = .ok (.iconst 1, 1) := by decide +kernel
theorem dX6_wishRow_27 : decode cX6_wishRow 27 = .ok (.isub, 1) := by decide +kernel
theorem dX6_wishRow_28 : decode cX6_wishRow 28 = .ok (.istore 4, 2) := by decide +kernel
theorem dX6_wishRow_30 : decode cX6_wishRow 30 = .ok (.iload 4, 2) := by decide +kernel
theorem dX6_wishRow_32 : decode cX6_wishRow 32 = .ok (.ifCond .lt 28, 3) := by decide +kernel
theorem dX6_wishRow_35 : decode cX6_wishRow 35 = .ok (.iload 4, 2) := by decide +kernel
theorem dX6_wishRow_37 : decode cX6_wishRow 37 = .ok (.aload_n 0, 1) := by decide +kernel
theorem dX6_wishRow_38 : decode cX6_wishRow 38 = .ok (.getfield 38, 3) := by decide +kernel
theorem dX6_wishRow_41 : decode cX6_wishRow 41 = .ok (.getfield 42, 3) := by decide +kernel
theorem dX6_wishRow_44 : decode cX6_wishRow 44 = .ok (.getfield 92, 3) := by decide +kernel
theorem dX6_wishRow_47 : decode cX6_wishRow 47 = .ok (.if_icmp .ge 13, 3) := by decide +kernel
theorem dX6_wishRow_50 : decode cX6_wishRow 50 = .ok (.iload_n 2, 1) := by decide +kernel
theorem dX6_wishRow_51 : decode cX6_wishRow 51 = .ok (.iload 4, 2) := by decide +kernel
theorem dX6_wishRow_53 : decode cX6_wishRow 53 = .ok (.invokestatic 365, 3) := by decide +kernel
theorem dX6_wishRow_56 : decode cX6_wishRow 56 = .ok (.iconst (-1), 1) := by decide +kernel
theorem dX6_wishRow_57 : decode cX6_wishRow 57 = .ok (.if_icmp .eq 5, 3) := by decide +kernel
theorem dX6_wishRow_60 : decode cX6_wishRow 60 = .ok (.iconst (-1), 1) := by decide +kernel
theorem dX6_wishRow_61 : decode cX6_wishRow 61 = .ok (.ireturn, 1) := by decide +kernel
theorem dX6_wishRow_62 : decode cX6_wishRow 62 = .ok (.iload_n 2, 1) := by decide +kernel
theorem dX6_wishRow_63 : decode cX6_wishRow 63 = .ok (.iconst 4, 1) := by decide +kernel
theorem dX6_wishRow_64 : decode cX6_wishRow 64 = .ok (.ishl, 1) := by decide +kernel
theorem dX6_wishRow_65 : decode cX6_wishRow 65 = .ok (.iload 4, 2) := by decide +kernel
theorem dX6_wishRow_67 : decode cX6_wishRow 67 = .ok (.iconst 1, 1) := by decide +kernel
theorem dX6_wishRow_68 : decode cX6_wishRow 68 = .ok (.iadd, 1) := by decide +kernel
theorem dX6_wishRow_69 : decode cX6_wishRow 69 = .ok (.ior, 1) := by decide +kernel
theorem dX6_wishRow_70 : decode cX6_wishRow 70 = .ok (.istore_n 2, 1) := by decide +kernel
theorem dX6_wishRow_71 : decode cX6_wishRow 71 = .ok (.iload_n 3, 1) := by decide +kernel
theorem dX6_wishRow_72 : decode cX6_wishRow 72 = .ok (.bipush 10, 2) := by decide +kernel
theorem dX6_wishRow_74 : decode cX6_wishRow 74 = .ok (.idiv, 1) := by decide +kernel
theorem dX6_wishRow_75 : decode cX6_wishRow 75 = .ok (.istore_n 3, 1) := by decide +kernel
theorem dX6_wishRow_76 : decode cX6_wishRow 76 = .ok (.goto (-58), 3) := by decide +kernel
theorem dX6_wishRow_79 : decode cX6_wishRow 79 = .ok (.iload_n 2, 1) := by decide +kernel
theorem dX6_wishRow_80 : decode cX6_wishRow 80 = .ok (.ireturn, 1) := by decide +kernel
theorem dX6_remember_0 : decode cX6_remember 0 = .ok (.aload_n 0, 1) := by decide +kernel
theorem dX6_remember_1 : decode cX6_remember 1 = .ok (.getfield 59, 3) := by decide +kernel
theorem dX6_remember_4 : decode cX6_remember 4 = .ok (.aload_n 0, 1) := by decide +kernel
theorem dX6_remember_5 : decode cX6_remember 5 = .ok (.getfield 63, 3) := by decide +kernel
theorem dX6_remember_8 : decode cX6_remember 8 = .ok (.aaload, 1) := by decide +kernel
theorem dX6_remember_9 : decode cX6_remember 9 = .ok (.aload_n 0, 1) := by decide +kernel
theorem dX6_remember_10 : decode cX6_remember 10 = .ok (.getfield 38, 3) := by decide +kernel
theorem dX6_remember_13 : decode cX6_remember 13 = .ok (.invokevirtual 295, 3) := by decide +kernel
theorem dX6_remember_16 : decode cX6_remember 16 = .ok (.aload_n 0, 1) := by decide +kernel
theorem dX6_remember_17 : decode cX6_remember 17 = .ok (.aload_n 0, 1) := by decide +kernel
theorem dX6_remember_18 : decode cX6_remember 18 = .ok (.getfield 63, 3) := by decide +kernel
theorem dX6_remember_21 : decode cX6_remember 21 = .ok (.bipush 9, 2) := by decide +kernel
theorem dX6_remember_23 : decode cX6_remember 23 = .ok (.if_icmp .ne 7, 3) := by decide +kernel
theorem dX6_remember_26 : decode cX6_remember 26 = .ok (.iconst 0, 1) := by decide +kernel
theorem dX6_remember_27 : decode cX6_remember 27 = .ok (.goto 9, 3) := by decide +kernel
theorem dX6_remember_30 : decode cX6_remember 30 = .ok (.aload_n 0, 1) := by decide +kernel
theorem dX6_remember_31 : decode cX6_remember 31 = .ok (.getfield 63, 3) := by decide +kernel
theorem dX6_remember_34 : decode cX6_remember 34 = .ok (.iconst 1, 1) := by decide +kernel
theorem dX6_remember_35 : decode cX6_remember 35 = .ok (.iadd, 1) := by decide +kernel
theorem dX6_remember_36 : decode cX6_remember 36 = .ok (.putfield 63, 3) := by decide +kernel
theorem dX6_remember_39 : decode cX6_remember 39 = .ok (.aload_n 0, 1) := by decide +kernel
theorem dX6_remember_40 : decode cX6_remember 40 = .ok (.bipush 10, 2) := by decide +kernel
theorem dX6_remember_42 : decode cX6_remember 42 = .ok (.aload_n 0, 1) := by decide +kernel
theorem dX6_remember_43 : decode cX6_remember 43 = .ok (.getfield 67, 3) := by decide +kernel
theorem dX6_remember_46 : decode cX6_remember 46 = .ok (.iconst 1, 1) := by decide +kernel
theorem dX6_remember_47 : decode cX6_remember 47 = .ok (.iadd, 1) := by decide +kernel
theorem dX6_remember_48 : decode cX6_remember 48 = .ok (.invokestatic 368, 3) := by decide +kernel
theorem dX6_remember_51 : decode cX6_remember 51 = .ok (.putfield 67, 3) := by decide +kernel
theorem dX6_remember_54 : decode cX6_remember 54 = .ok (.return_, 1) := by decide +kernel
theorem dX6_printChildren_0 : decode cX6_printChildren 0 = .ok (.lload_n 1, 1) := by decide +kernel
theorem dX6_printChildren_1 : decode cX6_printChildren 1 = .ok (.lstore 4, 2) := by decide +kernel
theorem dX6_printChildren_3 : decode cX6_printChildren 3 = .ok (.lload_n 1, 1) := by decide +kernel
theorem dX6_printChildren_4 : decode cX6_printChildren 4 = .ok (.invokestatic 102, 3) := by decide +kernel
theorem dX6_printChildren_7 : decode cX6_printChildren 7 = .ok (.istore 6, 2) := by decide +kernel
theorem dX6_printChildren_9 : decode cX6_printChildren 9 = .ok (.iload 6, 2) := by decide +kernel
theorem dX6_printChildren_11 : decode cX6_printChildren 11 = .ok (.ifCond .le 97, 3) := by decide +kernel
theorem dX6_printChildren_14 : decode cX6_printChildren 14 = .ok (.aload_n 0, 1) := by decide +kernel
theorem dX6_printChildren_15 : decode cX6_printChildren 15 = .ok (.getfield 38, 3) := by decide +kernel
theorem dX6_printChildren_18 : decode cX6_printChildren 18 = .ok (.lload 4, 2) := by decide +kernel
theorem dX6_printChildren_20 : decode cX6_printChildren 20 = .ok (.iload_n 3, 1) := by decide +kernel
theorem dX6_printChildren_21 : decode cX6_printChildren 21 = .ok (.invokevirtual 371, 3) := by decide +kernel
theorem dX6_printChildren_24 : decode cX6_printChildren 24 = .ok (.istore 7, 2) := by decide +kernel
theorem dX6_printChildren_26 : decode cX6_printChildren 26 = .ok (.iload 7, 2) := by decide +kernel
theorem dX6_printChildren_28 : decode cX6_printChildren 28 = .ok (.iconst (-1), 1) := by decide +kernel
theorem dX6_printChildren_29 : decode cX6_printChildren 29 = .ok (.if_icmp .ne 4, 3) := by decide +kernel
theorem dX6_printChildren_32 : decode cX6_printChildren 32 = .ok (.return_, 1) := by decide +kernel
theorem dX6_printChildren_33 : decode cX6_printChildren 33 = .ok (.lload 4, 2) := by decide +kernel
theorem dX6_printChildren_35 : decode cX6_printChildren 35 = .ok (.lconst 1, 1) := by decide +kernel
theorem dX6_printChildren_36 : decode cX6_printChildren 36 = .ok (.iload 7, 2) := by decide +kernel
theorem dX6_printChildren_38 : decode cX6_printChildren 38 = .ok (.lshl, 1) := by decide +kernel
theorem dX6_printChildren_39 : decode cX6_printChildren 39 = .ok (.ldc2_w 326, 3) := by decide +kernel
theorem dX6_printChildren_42 : decode cX6_printChildren 42 = .ok (.lxor, 1) := by decide +kernel
theorem dX6_printChildren_43 : decode cX6_printChildren 43 = .ok (.land, 1) := by decide +kernel
theorem dX6_printChildren_44 : decode cX6_printChildren 44 = .ok (.lstore 4, 2) := by decide +kernel
theorem dX6_printChildren_46 : decode cX6_printChildren 46 = .ok (.aload_n 0, 1) := by decide +kernel
theorem dX6_printChildren_47 : decode cX6_printChildren 47 = .ok (.getfield 26, 3) := by decide +kernel
theorem dX6_printChildren_50 : decode cX6_printChildren 50 = .ok (.bipush 32, 2) := by decide +kernel
theorem dX6_printChildren_52 : decode cX6_printChildren 52 = .ok (.invokevirtual 340, 3) := by decide +kernel
theorem dX6_printChildren_55 : decode cX6_printChildren 55 = .ok (.aload_n 0, 1) := by decide +kernel
theorem dX6_printChildren_56 : decode cX6_printChildren 56 = .ok (.getfield 26, 3) := by decide +kernel
theorem dX6_printChildren_59 : decode cX6_printChildren 59 = .ok (.iload 7, 2) := by decide +kernel
theorem dX6_printChildren_61 : decode cX6_printChildren 61 = .ok (.invokevirtual 374, 3) := by decide +kernel
theorem dX6_printChildren_64 : decode cX6_printChildren 64 = .ok (.aload_n 0, 1) := by decide +kernel
theorem dX6_printChildren_65 : decode cX6_printChildren 65 = .ok (.getfield 38, 3) := by decide +kernel
theorem dX6_printChildren_68 : decode cX6_printChildren 68 = .ok (.getfield 213, 3) := by decide +kernel
theorem dX6_printChildren_71 : decode cX6_printChildren 71 = .ok (.iload 7, 2) := by decide +kernel
theorem dX6_printChildren_73 : decode cX6_printChildren 73 = .ok (.iaload, 1) := by decide +kernel
theorem dX6_printChildren_74 : decode cX6_printChildren 74 = .ok (.iload_n 3, 1) := by decide +kernel
theorem dX6_printChildren_75 : decode cX6_printChildren 75 = .ok (.if_icmp .ne 27, 3) := by decide +kernel
theorem dX6_printChildren_78 : decode cX6_printChildren 78 = .ok (.aload_n 0, 1) := by decide +kernel
theorem dX6_printChildren_79 : decode cX6_printChildren 79 = .ok (.getfield 38, 3) := by decide +kernel
theorem dX6_printChildren_82 : decode cX6_printChildren 82 = .ok (.getfield 168, 3) := by decide +kernel
theorem dX6_printChildren_85 : decode cX6_printChildren 85 = .ok (.iload 7, 2) := by decide +kernel
theorem dX6_printChildren_87 : decode cX6_printChildren 87 = .ok (.invokestatic 199, 3) := by decide +kernel
theorem dX6_printChildren_90 : decode cX6_printChildren 90 = .ok (.ifCond .eq 12, 3) := by decide +kernel
theorem dX6_printChildren_93 : decode cX6_printChildren 93 = .ok (.aload_n 0, 1) := by decide +kernel
theorem dX6_printChildren_94 : decode cX6_printChildren 94 = .ok (.getfield 26, 3) := by decide +kernel
theorem dX6_printChildren_97 : decode cX6_printChildren 97 = .ok (.bipush 42, 2) := by decide +kernel
theorem dX6_printChildren_99 : decode cX6_printChildren 99 = .ok (.invokevirtual 340, 3) := by decide +kernel
theorem dX6_printChildren_102 : decode cX6_printChildren 102 = .ok (.iinc 6 (-1), 3) := by decide +kernel
theorem dX6_printChildren_105 : decode cX6_printChildren 105 = .ok (.goto (-96), 3) := by decide +kernel
theorem dX6_printChildren_108 : decode cX6_printChildren 108 = .ok (.return_, 1) := by decide +kernel
theorem dX6_isIn_0 : decode cX6_isIn 0 = .ok (.lload_n 0, 1) := by decide +kernel
theorem dX6_isIn_1 : decode cX6_isIn 1 = .ok (.iload_n 2, 1) := by decide +kernel
theorem dX6_isIn_2 : decode cX6_isIn 2 = .ok (.lshr, 1) := by decide +kernel
theorem dX6_isIn_3 : decode cX6_isIn 3 = .ok (.lconst 1, 1) := by decide +kernel
theorem dX6_isIn_4 : decode cX6_isIn 4 = .ok (.land, 1) := by decide +kernel
theorem dX6_isIn_5 : decode cX6_isIn 5 = .ok (.lconst 0, 1) := by decide +kernel
theorem dX6_isIn_6 : decode cX6_isIn 6 = .ok (.lcmp, 1) := by decide +kernel
theorem dX6_isIn_7 : decode cX6_isIn 7 = .ok (.ifCond .eq 7, 3) := by decide +kernel
theorem dX6_isIn_10 : decode cX6_isIn 10 = .ok (.iconst 1, 1) := by decide +kernel
theorem dX6_isIn_11 : decode cX6_isIn 11 = .ok (.goto 4, 3) := by decide +kernel
theorem dX6_isIn_14 : decode cX6_isIn 14 = .ok (.iconst 0, 1) := by decide +kernel
theorem dX6_isIn_15 : decode cX6_isIn 15 = .ok (.ireturn, 1) := by decide +kernel
theorem dX6_rowEntry_0 : decode cX6_rowEntry 0 = .ok (.iload_n 1, 1) := by decide +kernel
theorem dX6_rowEntry_1 : decode cX6_rowEntry 1 = .ok (.ifCond .lt 8, 3) := by decide +kernel
theorem dX6_rowEntry_4 : decode cX6_rowEntry 4 = .ok (.iload_n 1, 1) := by decide +kernel
theorem dX6_rowEntry_5 : decode cX6_rowEntry 5 = .ok (.iconst 4, 1) := by decide +kernel
theorem dX6_rowEntry_6 : decode cX6_rowEntry 6 = .ok (.if_icmp .lt 7, 3) := by decide +kernel
theorem dX6_rowEntry_9 : decode cX6_rowEntry 9 = .ok (.iconst (-1), 1) := by decide +kernel
theorem dX6_rowEntry_10 : decode cX6_rowEntry 10 = .ok (.goto 13, 3) := by decide +kernel
theorem dX6_rowEntry_13 : decode cX6_rowEntry 13 = .ok (.iload_n 0, 1) := by decide +kernel
theorem dX6_rowEntry_14 : decode cX6_rowEntry 14 = .ok (.iconst 4, 1) := by decide +kernel
theorem dX6_rowEntry_15 : decode cX6_rowEntry 15 = .ok (.iload_n 1, 1) := by decide +kernel
theorem dX6_rowEntry_16 : decode cX6_rowEntry 16 = .ok (.imul, 1) := by decide +kernel
theorem dX6_rowEntry_17 : decode cX6_rowEntry 17 = .ok (.ishr, 1) := by decide +kernel
theorem dX6_rowEntry_18 : decode cX6_rowEntry 18 = .ok (.bipush 15, 2) := by decide +kernel
theorem dX6_rowEntry_20 : decode cX6_rowEntry 20 = .ok (.iand, 1) := by decide +kernel
theorem dX6_rowEntry_21 : decode cX6_rowEntry 21 = .ok (.iconst 1, 1) := by decide +kernel
theorem dX6_rowEntry_22 : decode cX6_rowEntry 22 = .ok (.isub, 1) := by decide +kernel
theorem dX6_rowEntry_23 : decode cX6_rowEntry 23 = .ok (.ireturn, 1) := by decide +kernel
theorem dX6_rowLength_0 : decode cX6_rowLength 0 = .ok (.iconst 0, 1) := by decide +kernel
theorem dX6_rowLength_1 : decode cX6_rowLength 1 = .ok (.istore_n 1, 1) := by decide +kernel
theorem dX6_rowLength_2 : decode cX6_rowLength 2 = .ok (.iconst 0, 1) := by decide +kernel
theorem dX6_rowLength_3 : decode cX6_rowLength 3 = .ok (.istore_n 2, 1) := by decide +kernel
theorem dX6_rowLength_4 : decode cX6_rowLength 4 = .ok (.iload_n 2, 1) := by decide +kernel
theorem dX6_rowLength_5 : decode cX6_rowLength 5 = .ok (.iconst 4, 1) := by decide +kernel
theorem dX6_rowLength_6 : decode cX6_rowLength 6 = .ok (.if_icmp .ge 26, 3) := by decide +kernel
theorem dX6_rowLength_9 : decode cX6_rowLength 9 = .ok (.iload_n 1, 1) := by decide +kernel
theorem dX6_rowLength_10 : decode cX6_rowLength 10 = .ok (.iload_n 0, 1) := by decide +kernel
theorem dX6_rowLength_11 : decode cX6_rowLength 11 = .ok (.iload_n 2, 1) := by decide +kernel
theorem dX6_rowLength_12 : decode cX6_rowLength 12 = .ok (.invokestatic 179, 3) := by decide +kernel
theorem dX6_rowLength_15 : decode cX6_rowLength 15 = .ok (.iconst (-1), 1) := by decide +kernel
theorem dX6_rowLength_16 : decode cX6_rowLength 16 = .ok (.if_icmp .ne 7, 3) := by decide +kernel
theorem dX6_rowLength_19 : decode cX6_rowLength 19 = .ok (.iconst 0, 1) := by decide +kernel
theorem dX6_rowLength_20 : decode cX6_rowLength 20 = .ok (.goto 4, 3) := by decide +kernel
theorem dX6_rowLength_23 : decode cX6_rowLength 23 = .ok (.iconst 1, 1) := by decide +kernel
theorem dX6_rowLength_24 : decode cX6_rowLength 24 = .ok (.iadd, 1) := by decide +kernel
theorem dX6_rowLength_25 : decode cX6_rowLength 25 = .ok (.istore_n 1, 1) := by decide +kernel
theorem dX6_rowLength_26 : decode cX6_rowLength 26 = .ok (.iinc 2 1, 3) := by decide +kernel
theorem dX6_rowLength_29 : decode cX6_rowLength 29 = .ok (.goto (-25), 3) := by decide +kernel
theorem dX6_rowLength_32 : decode cX6_rowLength 32 = .ok (.iload_n 1, 1) := by decide +kernel
theorem dX6_rowLength_33 : decode cX6_rowLength 33 = .ok (.ireturn, 1) := by decide +kernel
theorem dX6_rowIndex_0 : decode cX6_rowIndex 0 = .ok (.iconst 0, 1) := by decide +kernel
theorem dX6_rowIndex_1 : decode cX6_rowIndex 1 = .ok (.istore_n 2, 1) := by decide +kernel
theorem dX6_rowIndex_2 : decode cX6_rowIndex 2 = .ok (.iload_n 2, 1) := by decide +kernel
theorem dX6_rowIndex_3 : decode cX6_rowIndex 3 = .ok (.iconst 4, 1) := by decide +kernel
theorem dX6_rowIndex_4 : decode cX6_rowIndex 4 = .ok (.if_icmp .ge 30, 3) := by decide +kernel
theorem dX6_rowIndex_7 : decode cX6_rowIndex 7 = .ok (.iload_n 1, 1) := by decide +kernel
theorem dX6_rowIndex_8 : decode cX6_rowIndex 8 = .ok (.iconst (-1), 1) := by decide +kernel
theorem dX6_rowIndex_9 : decode cX6_rowIndex 9 = .ok (.if_icmp .eq 19, 3) := by decide +kernel
theorem dX6_rowIndex_12 : decode cX6_rowIndex 12 = .ok (.iload_n 0, 1) := by decide +kernel
theorem dX6_rowIndex_13 : decode cX6_rowIndex 13 = .ok (.iconst 4, 1) := by decide +kernel
theorem dX6_rowIndex_14 : decode cX6_rowIndex 14 = .ok (.iload_n 2, 1) := by decide +kernel
theorem dX6_rowIndex_15 : decode cX6_rowIndex 15 = .ok (.imul, 1) := by decide +kernel
theorem dX6_rowIndex_16 : decode cX6_rowIndex 16 = .ok (.ishr, 1) := by decide +kernel
theorem dX6_rowIndex_17 : decode cX6_rowIndex 17 = .ok (.bipush 15, 2) := by decide +kernel
theorem dX6_rowIndex_19 : decode cX6_rowIndex 19 = .ok (.iand, 1) := by decide +kernel
theorem dX6_rowIndex_20 : decode cX6_rowIndex 20 = .ok (.iload_n 1, 1) := by decide +kernel
theorem dX6_rowIndex_21 : decode cX6_rowIndex 21 = .ok (.iconst 1, 1) := by decide +kernel
theorem dX6_rowIndex_22 : decode cX6_rowIndex 22 = .ok (.iadd, 1) := by decide +kernel
theorem dX6_rowIndex_23 : decode cX6_rowIndex 23 = .ok (.if_icmp .ne 5, 3) := by decide +kernel
theorem dX6_rowIndex_26 : decode cX6_rowIndex 26 = .ok (.iload_n 2, 1) := by decide +kernel
theorem dX6_rowIndex_27 : decode cX6_rowIndex 27 = .ok (.ireturn, 1) := by decide +kernel
theorem dX6_rowIndex_28 : decode cX6_rowIndex 28 = .ok (.iinc 2 1, 3) := by decide +kernel
theorem dX6_rowIndex_31 : decode cX6_rowIndex 31 = .ok (.goto (-29), 3) := by decide +kernel
theorem dX6_rowIndex_34 : decode cX6_rowIndex 34 = .ok (.iconst (-1), 1) := by decide +kernel
theorem dX6_rowIndex_35 : decode cX6_rowIndex 35 = .ok (.ireturn, 1) := by decide +kernel
theorem dX6_root_0 : decode cX6_root 0 = .ok (.iload_n 0, 1) := by decide +kernel
theorem dX6_root_1 : decode cX6_root 1 = .ok (.ifCond .gt 5, 3) := by decide +kernel
theorem dX6_root_4 : decode cX6_root 4 = .ok (.dconst 0, 1) := by decide +kernel
theorem dX6_root_5 : decode cX6_root 5 = .ok (.dreturn, 1) := by decide +kernel
theorem dX6_root_6 : decode cX6_root 6 = .ok (.iload_n 0, 1) := by decide +kernel
theorem dX6_root_7 : decode cX6_root 7 = .ok (.i2d, 1) := by decide +kernel
theorem dX6_root_8 : decode cX6_root 8 = .ok (.dstore_n 1, 1) := by decide +kernel
theorem dX6_root_9 : decode cX6_root 9 = .ok (.dload_n 1, 1) := by decide +kernel
theorem dX6_root_10 : decode cX6_root 10 = .ok (.dstore_n 3, 1) := by decide +kernel
theorem dX6_root_11 : decode cX6_root 11 = .ok (.iconst 0, 1) := by decide +kernel
theorem dX6_root_12 : decode cX6_root 12 = .ok (.istore 5, 2) := by decide +kernel
theorem dX6_root_14 : decode cX6_root 14 = .ok (.iload 5, 2) := by decide +kernel
theorem dX6_root_16 : decode cX6_root 16 = .ok (.bipush 60, 2) := by decide +kernel
theorem dX6_root_18 : decode cX6_root 18 = .ok (.if_icmp .ge 19, 3) := by decide +kernel
theorem dX6_root_21 : decode cX6_root 21 = .ok (.dload_n 3, 1) := by decide +kernel
theorem dX6_root_22 : decode cX6_root 22 = .ok (.dload_n 1, 1) := by decide +kernel
theorem dX6_root_23 : decode cX6_root 23 = .ok (.dload_n 3, 1) := by decide +kernel
theorem dX6_root_24 : decode cX6_root 24 = .ok (.ddiv, 1) := by decide +kernel
theorem dX6_root_25 : decode cX6_root 25 = .ok (.dadd, 1) := by decide +kernel
theorem dX6_root_26 : decode cX6_root 26 = .ok (.ldc2_w 377, 3) := by decide +kernel
theorem dX6_root_29 : decode cX6_root 29 = .ok (.ddiv, 1) := by decide +kernel
theorem dX6_root_30 : decode cX6_root 30 = .ok (.dstore_n 3, 1) := by decide +kernel
theorem dX6_root_31 : decode cX6_root 31 = .ok (.iinc 5 1, 3) := by decide +kernel
theorem dX6_root_34 : decode cX6_root 34 = .ok (.goto (-20), 3) := by decide +kernel
theorem dX6_root_37 : decode cX6_root 37 = .ok (.dload_n 3, 1) := by decide +kernel
theorem dX6_root_38 : decode cX6_root 38 = .ok (.dreturn, 1) := by decide +kernel
