theorem dX7_init_0 : decode cX7_init 0 = .ok (.aload_n 0, 1) := by decide +kernel
theorem dX7_init_1 : decode cX7_init 1 = .ok (.invokespecial 1, 3) := by decide +kernel
theorem dX7_init_4 : decode cX7_init 4 = .ok (.aload_n 0, 1) := by decide +kernel
theorem dX7_init_5 : decode cX7_init 5 = .ok (.sipush 764, 3) := by decide +kernel
theorem dX7_init_8 : decode cX7_init 8 = .ok (.newarray .int, 2) := by decide +kernel
theorem dX7_init_10 : decode cX7_init 10 = .ok (.putfield 7, 3) := by decide +kernel
theorem dX7_init_13 : decode cX7_init 13 = .ok (.aload_n 0, 1) := by decide +kernel
theorem dX7_init_14 : decode cX7_init 14 = .ok (.sipush 764, 3) := by decide +kernel
theorem dX7_init_17 : decode cX7_init 17 = .ok (.newarray .int, 2) := by decide +kernel
theorem dX7_init_19 : decode cX7_init 19 = .ok (.putfield 13, 3) := by decide +kernel
theorem dX7_init_22 : decode cX7_init 22 = .ok (.aload_n 0, 1) := by decide +kernel
theorem dX7_init_23 : decode cX7_init 23 = .ok (.sipush 764, 3) := by decide +kernel
theorem dX7_init_26 : decode cX7_init 26 = .ok (.newarray .int, 2) := by decide +kernel
theorem dX7_init_28 : decode cX7_init 28 = .ok (.putfield 16, 3) := by decide +kernel
theorem dX7_init_31 : decode cX7_init 31 = .ok (.aload_n 0, 1) := by decide +kernel
theorem dX7_init_32 : decode cX7_init 32 = .ok (.sipush 764, 3) := by decide +kernel
theorem dX7_init_35 : decode cX7_init 35 = .ok (.newarray .int, 2) := by decide +kernel
theorem dX7_init_37 : decode cX7_init 37 = .ok (.putfield 19, 3) := by decide +kernel
theorem dX7_init_40 : decode cX7_init 40 = .ok (.aload_n 0, 1) := by decide +kernel
theorem dX7_init_41 : decode cX7_init 41 = .ok (.sipush 7640, 3) := by decide +kernel
theorem dX7_init_44 : decode cX7_init 44 = .ok (.newarray .int, 2) := by decide +kernel
theorem dX7_init_46 : decode cX7_init 46 = .ok (.putfield 22, 3) := by decide +kernel
theorem dX7_init_49 : decode cX7_init 49 = .ok (.aload_n 0, 1) := by decide +kernel
theorem dX7_init_50 : decode cX7_init 50 = .ok (.bipush 48, 2) := by decide +kernel
theorem dX7_init_52 : decode cX7_init 52 = .ok (.newarray .int, 2) := by decide +kernel
theorem dX7_init_54 : decode cX7_init 54 = .ok (.putfield 25, 3) := by decide +kernel
theorem dX7_init_57 : decode cX7_init 57 = .ok (.aload_n 0, 1) := by decide +kernel
theorem dX7_init_58 : decode cX7_init 58 = .ok (.bipush 48, 2) := by decide +kernel
theorem dX7_init_60 : decode cX7_init 60 = .ok (.newarray .int, 2) := by decide +kernel
theorem dX7_init_62 : decode cX7_init 62 = .ok (.putfield 28, 3) := by decide +kernel
theorem dX7_init_65 : decode cX7_init 65 = .ok (.aload_n 0, 1) := by decide +kernel
theorem dX7_init_66 : decode cX7_init 66 = .ok (.bipush 40, 2) := by decide +kernel
theorem dX7_init_68 : decode cX7_init 68 = .ok (.newarray .int, 2) := by decide +kernel
theorem dX7_init_70 : decode cX7_init 70 = .ok (.putfield 31, 3) := by decide +kernel
theorem dX7_init_73 : decode cX7_init 73 = .ok (.aload_n 0, 1) := by decide +kernel
theorem dX7_init_74 : decode cX7_init 74 = .ok (.sipush 900, 3) := by decide +kernel
theorem dX7_init_77 : decode cX7_init 77 = .ok (.newarray .int, 2) := by decide +kernel
theorem dX7_init_79 : decode cX7_init 79 = .ok (.putfield 34, 3) := by decide +kernel
theorem dX7_init_82 : decode cX7_init 82 = .ok (.aload_n 0, 1) := by decide +kernel
theorem dX7_init_83 : decode cX7_init 83 = .ok (.iconst (-1), 1) := by decide +kernel
theorem dX7_init_84 : decode cX7_init 84 = .ok (.putfield 37, 3) := by decide +kernel
theorem dX7_init_87 : decode cX7_init 87 = .ok (.aload_n 0, 1) := by decide +kernel
theorem dX7_init_88 : decode cX7_init 88 = .ok (.iconst 4, 1) := by decide +kernel
theorem dX7_init_89 : decode cX7_init 89 = .ok (.newarray .int, 2) := by decide +kernel
theorem dX7_init_91 : decode cX7_init 91 = .ok (.putfield 41, 3) := by decide +kernel
theorem dX7_init_94 : decode cX7_init 94 = .ok (.aload_n 0, 1) := by decide +kernel
theorem dX7_init_95 : decode cX7_init 95 = .ok (.bipush 40, 2) := by decide +kernel
theorem dX7_init_97 : decode cX7_init 97 = .ok (.newarray .int, 2) := by decide +kernel
theorem dX7_init_99 : decode cX7_init 99 = .ok (.putfield 44, 3) := by decide +kernel
theorem dX7_init_102 : decode cX7_init 102 = .ok (.aload_n 0, 1) := by decide +kernel
theorem dX7_init_103 : decode cX7_init 103 = .ok (.iconst 4, 1) := by decide +kernel
theorem dX7_init_104 : decode cX7_init 104 = .ok (.newarray .int, 2) := by decide +kernel
theorem dX7_init_106 : decode cX7_init 106 = .ok (.putfield 47, 3) := by decide +kernel
theorem dX7_init_109 : decode cX7_init 109 = .ok (.aload_n 0, 1) := by decide +kernel
theorem dX7_init_110 : decode cX7_init 110 = .ok (.sipush 400, 3) := by decide +kernel
theorem dX7_init_113 : decode cX7_init 113 = .ok (.newarray .int, 2) := by decide +kernel
theorem dX7_init_115 : decode cX7_init 115 = .ok (.putfield 50, 3) := by decide +kernel
theorem dX7_init_118 : decode cX7_init 118 = .ok (.aload_n 0, 1) := by decide +kernel
theorem dX7_init_119 : decode cX7_init 119 = .ok (.invokevirtual 53, 3) := by decide +kernel
theorem dX7_init_122 : decode cX7_init 122 = .ok (.return_, 1) := by decide +kernel
theorem dX7_thrown_0 : decode cX7_thrown 0 = .ok (.aload_n 0, 1) := by decide +kernel
theorem dX7_thrown_1 : decode cX7_thrown 1 = .ok (.getfield 56, 3) := by decide +kernel
theorem dX7_thrown_4 : decode cX7_thrown 4 = .ok (.ireturn, 1) := by decide +kernel
theorem dX7_inRange_0 : decode cX7_inRange 0 = .ok (.iload_n 0, 1) := by decide +kernel
theorem dX7_inRange_1 : decode cX7_inRange 1 = .ok (.iload_n 1, 1) := by decide +kernel
theorem dX7_inRange_2 : decode cX7_inRange 2 = .ok (.if_icmp .lt 12, 3) := by decide +kernel
theorem dX7_inRange_5 : decode cX7_inRange 5 = .ok (.iload_n 0, 1) := by decide +kernel
theorem dX7_inRange_6 : decode cX7_inRange 6 = .ok (.iload_n 2, 1) := by decide +kernel
theorem dX7_inRange_7 : decode cX7_inRange 7 = .ok (.if_icmp .gt 7, 3) := by decide +kernel
theorem dX7_inRange_10 : decode cX7_inRange 10 = .ok (.iconst 1, 1) := by decide +kernel
theorem dX7_inRange_11 : decode cX7_inRange 11 = .ok (.goto 4, 3) := by decide +kernel
theorem dX7_inRange_14 : decode cX7_inRange 14 = .ok (.iconst 0, 1) := by decide +kernel
theorem dX7_inRange_15 : decode cX7_inRange 15 = .ok (.ireturn, 1) := by decide +kernel
theorem dX7_fails_0 : decode cX7_fails 0 = .ok (.iload_n 1, 1) := by decide +kernel
theorem dX7_fails_1 : decode cX7_fails 1 = .ok (.ifCond .eq 8, 3) := by decide +kernel
theorem dX7_fails_4 : decode cX7_fails 4 = .ok (.aload_n 0, 1) := by decide +kernel
theorem dX7_fails_5 : decode cX7_fails 5 = .ok (.iload_n 2, 1) := by decide +kernel
theorem dX7_fails_6 : decode cX7_fails 6 = .ok (.putfield 56, 3) := by decide +kernel
theorem dX7_fails_9 : decode cX7_fails 9 = .ok (.iload_n 1, 1) := by decide +kernel
theorem dX7_fails_10 : decode cX7_fails 10 = .ok (.ireturn, 1) := by decide +kernel
theorem dX7_copies_0 : decode cX7_copies 0 = .ok (.iconst 0, 1) := by decide +kernel
theorem dX7_copies_1 : decode cX7_copies 1 = .ok (.istore 5, 2) := by decide +kernel
theorem dX7_copies_3 : decode cX7_copies 3 = .ok (.iload 5, 2) := by decide +kernel
theorem dX7_copies_5 : decode cX7_copies 5 = .ok (.iload 4, 2) := by decide +kernel
theorem dX7_copies_7 : decode cX7_copies 7 = .ok (.if_icmp .ge 21, 3) := by decide +kernel
theorem dX7_copies_10 : decode cX7_copies 10 = .ok (.aload_n 2, 1) := by decide +kernel
theorem dX7_copies_11 : decode cX7_copies 11 = .ok (.iload_n 3, 1) := by decide +kernel
theorem dX7_copies_12 : decode cX7_copies 12 = .ok (.iload 5, 2) := by decide +kernel
theorem dX7_copies_14 : decode cX7_copies 14 = .ok (.iadd, 1) := by decide +kernel
theorem dX7_copies_15 : decode cX7_copies 15 = .ok (.aload_n 0, 1) := by decide +kernel
theorem dX7_copies_16 : decode cX7_copies 16 = .ok (.iload_n 1, 1) := by decide +kernel
theorem dX7_copies_17 : decode cX7_copies 17 = .ok (.iload 5, 2) := by decide +kernel
theorem dX7_copies_19 : decode cX7_copies 19 = .ok (.iadd, 1) := by decide +kernel
theorem dX7_copies_20 : decode cX7_copies 20 = .ok (.iaload, 1) := by decide +kernel
theorem dX7_copies_21 : decode cX7_copies 21 = .ok (.iastore, 1) := by decide +kernel
theorem dX7_copies_22 : decode cX7_copies 22 = .ok (.iinc 5 1, 3) := by decide +kernel
theorem dX7_copies_25 : decode cX7_copies 25 = .ok (.goto (-22), 3) := by decide +kernel
theorem dX7_copies_28 : decode cX7_copies 28 = .ok (.return_, 1) := by decide +kernel
theorem dX7_clear_0 : decode cX7_clear 0 = .ok (.iconst 0, 1) := by decide +kernel
theorem dX7_clear_1 : decode cX7_clear 1 = .ok (.istore_n 1, 1) := by decide +kernel
theorem dX7_clear_2 : decode cX7_clear 2 = .ok (.iload_n 1, 1) := by decide +kernel
theorem dX7_clear_3 : decode cX7_clear 3 = .ok (.sipush 764, 3) := by decide +kernel
theorem dX7_clear_6 : decode cX7_clear 6 = .ok (.if_icmp .ge 16, 3) := by decide +kernel
theorem dX7_clear_9 : decode cX7_clear 9 = .ok (.aload_n 0, 1) := by decide +kernel
theorem dX7_clear_10 : decode cX7_clear 10 = .ok (.getfield 7, 3) := by decide +kernel
theorem dX7_clear_13 : decode cX7_clear 13 = .ok (.iload_n 1, 1) := by decide +kernel
theorem dX7_clear_14 : decode cX7_clear 14 = .ok (.iconst 0, 1) := by decide +kernel
theorem dX7_clear_15 : decode cX7_clear 15 = .ok (.iastore, 1) := by decide +kernel
theorem dX7_clear_16 : decode cX7_clear 16 = .ok (.iinc 1 1, 3) := by decide +kernel
theorem dX7_clear_19 : decode cX7_clear 19 = .ok (.goto (-17), 3) := by decide +kernel
theorem dX7_clear_22 : decode cX7_clear 22 = .ok (.iconst 0, 1) := by decide +kernel
theorem dX7_clear_23 : decode cX7_clear 23 = .ok (.istore_n 1, 1) := by decide +kernel
theorem dX7_clear_24 : decode cX7_clear 24 = .ok (.iload_n 1, 1) := by decide +kernel
theorem dX7_clear_25 : decode cX7_clear 25 = .ok (.bipush 40, 2) := by decide +kernel
theorem dX7_clear_27 : decode cX7_clear 27 = .ok (.if_icmp .ge 20, 3) := by decide +kernel
theorem dX7_clear_30 : decode cX7_clear 30 = .ok (.aload_n 0, 1) := by decide +kernel
theorem dX7_clear_31 : decode cX7_clear 31 = .ok (.getfield 7, 3) := by decide +kernel
theorem dX7_clear_34 : decode cX7_clear 34 = .ok (.sipush 484, 3) := by decide +kernel
theorem dX7_clear_37 : decode cX7_clear 37 = .ok (.iload_n 1, 1) := by decide +kernel
theorem dX7_clear_38 : decode cX7_clear 38 = .ok (.iadd, 1) := by decide +kernel
theorem dX7_clear_39 : decode cX7_clear 39 = .ok (.iconst (-1), 1) := by decide +kernel
theorem dX7_clear_40 : decode cX7_clear 40 = .ok (.iastore, 1) := by decide +kernel
theorem dX7_clear_41 : decode cX7_clear 41 = .ok (.iinc 1 1, 3) := by decide +kernel
theorem dX7_clear_44 : decode cX7_clear 44 = .ok (.goto (-20), 3) := by decide +kernel
theorem dX7_clear_47 : decode cX7_clear 47 = .ok (.return_, 1) := by decide +kernel
theorem dX7_remembers_0 : decode cX7_remembers 0 = .ok (.aload_n 0, 1) := by decide +kernel
theorem dX7_remembers_1 : decode cX7_remembers 1 = .ok (.getfield 59, 3) := by decide +kernel
theorem dX7_remembers_4 : decode cX7_remembers 4 = .ok (.bipush 10, 2) := by decide +kernel
theorem dX7_remembers_6 : decode cX7_remembers 6 = .ok (.if_icmp .ne 31, 3) := by decide +kernel
theorem dX7_remembers_9 : decode cX7_remembers 9 = .ok (.aload_n 0, 1) := by decide +kernel
theorem dX7_remembers_10 : decode cX7_remembers 10 = .ok (.getfield 22, 3) := by decide +kernel
theorem dX7_remembers_13 : decode cX7_remembers 13 = .ok (.sipush 764, 3) := by decide +kernel
theorem dX7_remembers_16 : decode cX7_remembers 16 = .ok (.aload_n 0, 1) := by decide +kernel
theorem dX7_remembers_17 : decode cX7_remembers 17 = .ok (.getfield 22, 3) := by decide +kernel
theorem dX7_remembers_20 : decode cX7_remembers 20 = .ok (.iconst 0, 1) := by decide +kernel
theorem dX7_remembers_21 : decode cX7_remembers 21 = .ok (.sipush 6876, 3) := by decide +kernel
theorem dX7_remembers_24 : decode cX7_remembers 24 = .ok (.invokestatic 62, 3) := by decide +kernel
theorem dX7_remembers_27 : decode cX7_remembers 27 = .ok (.aload_n 0, 1) := by decide +kernel
theorem dX7_remembers_28 : decode cX7_remembers 28 = .ok (.dup, 1) := by decide +kernel
theorem dX7_remembers_29 : decode cX7_remembers 29 = .ok (.getfield 59, 3) := by decide +kernel
theorem dX7_remembers_32 : decode cX7_remembers 32 = .ok (.iconst 1, 1) := by decide +kernel
theorem dX7_remembers_33 : decode cX7_remembers 33 = .ok (.isub, 1) := by decide +kernel
theorem dX7_remembers_34 : decode cX7_remembers 34 = .ok (.putfield 59, 3) := by decide +kernel
theorem dX7_remembers_37 : decode cX7_remembers 37 = .ok (.aload_n 0, 1) := by decide +kernel
theorem dX7_remembers_38 : decode cX7_remembers 38 = .ok (.getfield 7, 3) := by decide +kernel
theorem dX7_remembers_41 : decode cX7_remembers 41 = .ok (.iconst 0, 1) := by decide +kernel
theorem dX7_remembers_42 : decode cX7_remembers 42 = .ok (.aload_n 0, 1) := by decide +kernel
theorem dX7_remembers_43 : decode cX7_remembers 43 = .ok (.getfield 22, 3) := by decide +kernel
theorem dX7_remembers_46 : decode cX7_remembers 46 = .ok (.sipush 764, 3) := by decide +kernel
theorem dX7_remembers_49 : decode cX7_remembers 49 = .ok (.aload_n 0, 1) := by decide +kernel
theorem dX7_remembers_50 : decode cX7_remembers 50 = .ok (.getfield 59, 3) := by decide +kernel
theorem dX7_remembers_53 : decode cX7_remembers 53 = .ok (.imul, 1) := by decide +kernel
theorem dX7_remembers_54 : decode cX7_remembers 54 = .ok (.sipush 764, 3) := by decide +kernel
theorem dX7_remembers_57 : decode cX7_remembers 57 = .ok (.invokestatic 62, 3) := by decide +kernel
theorem dX7_remembers_60 : decode cX7_remembers 60 = .ok (.aload_n 0, 1) := by decide +kernel
theorem dX7_remembers_61 : decode cX7_remembers 61 = .ok (.dup, 1) := by decide +kernel
theorem dX7_remembers_62 : decode cX7_remembers 62 = .ok (.getfield 59, 3) := by decide +kernel
theorem dX7_remembers_65 : decode cX7_remembers 65 = .ok (.iconst 1, 1) := by decide +kernel
theorem dX7_remembers_66 : decode cX7_remembers 66 = .ok (.iadd, 1) := by decide +kernel
theorem dX7_remembers_67 : decode cX7_remembers 67 = .ok (.putfield 59, 3) := by decide +kernel
theorem dX7_remembers_70 : decode cX7_remembers 70 = .ok (.return_, 1) := by decide +kernel
theorem dX7_hasPupil_0 : decode cX7_hasPupil 0 = .ok (.iconst 0, 1) := by decide +kernel
theorem dX7_hasPupil_1 : decode cX7_hasPupil 1 = .ok (.istore_n 3, 1) := by decide +kernel
theorem dX7_hasPupil_2 : decode cX7_hasPupil 2 = .ok (.iload_n 3, 1) := by decide +kernel
theorem dX7_hasPupil_3 : decode cX7_hasPupil 3 = .ok (.aload_n 0, 1) := by decide +kernel
theorem dX7_hasPupil_4 : decode cX7_hasPupil 4 = .ok (.getfield 7, 3) := by decide +kernel
theorem dX7_hasPupil_7 : decode cX7_hasPupil 7 = .ok (.iconst 2, 1) := by decide +kernel
theorem dX7_hasPupil_8 : decode cX7_hasPupil 8 = .ok (.iaload, 1) := by decide +kernel
theorem dX7_hasPupil_9 : decode cX7_hasPupil 9 = .ok (.if_icmp .ge 45, 3) := by decide +kernel
theorem dX7_hasPupil_12 : decode cX7_hasPupil 12 = .ok (.aload_n 0, 1) := by decide +kernel
theorem dX7_hasPupil_13 : decode cX7_hasPupil 13 = .ok (.getfield 7, 3) := by decide +kernel
theorem dX7_hasPupil_16 : decode cX7_hasPupil 16 = .ok (.sipush 724, 3) := by decide +kernel
theorem dX7_hasPupil_19 : decode cX7_hasPupil 19 = .ok (.iconst 2, 1) := by decide +kernel
theorem dX7_hasPupil_20 : decode cX7_hasPupil 20 = .ok (.iload_n 3, 1) := by decide +kernel
theorem dX7_hasPupil_21 : decode cX7_hasPupil 21 = .ok (.imul, 1) := by decide +kernel
theorem dX7_hasPupil_22 : decode cX7_hasPupil 22 = .ok (.iadd, 1) := by decide +kernel
theorem dX7_hasPupil_23 : decode cX7_hasPupil 23 = .ok (.iaload, 1) := by decide +kernel
theorem dX7_hasPupil_24 : decode cX7_hasPupil 24 = .ok (.iload_n 1, 1) := by decide +kernel
theorem dX7_hasPupil_25 : decode cX7_hasPupil 25 = .ok (.if_icmp .ne 23, 3) := by decide +kernel
theorem dX7_hasPupil_28 : decode cX7_hasPupil 28 = .ok (.aload_n 0, 1) := by decide +kernel
theorem dX7_hasPupil_29 : decode cX7_hasPupil 29 = .ok (.getfield 7, 3) := by decide +kernel
theorem dX7_hasPupil_32 : decode cX7_hasPupil 32 = .ok (.sipush 724, 3) := by decide +kernel
theorem dX7_hasPupil_35 : decode cX7_hasPupil 35 = .ok (.iconst 2, 1) := by decide +kernel
theorem dX7_hasPupil_36 : decode cX7_hasPupil 36 = .ok (.iload_n 3, 1) := by decide +kernel
theorem dX7_hasPupil_37 : decode cX7_hasPupil 37 = .ok (.imul, 1) := by decide +kernel
theorem dX7_hasPupil_38 : decode cX7_hasPupil 38 = .ok (.iadd, 1) := by decide +kernel
theorem dX7_hasPupil_39 : decode cX7_hasPupil 39 = .ok (.iconst 1, 1) := by decide +kernel
theorem dX7_hasPupil_40 : decode cX7_hasPupil 40 = .ok (.iadd, 1) := by decide +kernel
theorem dX7_hasPupil_41 : decode cX7_hasPupil 41 = .ok (.iaload, 1) := by decide +kernel
theorem dX7_hasPupil_42 : decode cX7_hasPupil 42 = .ok (.iload_n 2, 1) := by decide +kernel
theorem dX7_hasPupil_43 : decode cX7_hasPupil 43 = .ok (.if_icmp .ne 5, 3) := by decide +kernel
theorem dX7_hasPupil_46 : decode cX7_hasPupil 46 = .ok (.iconst 1, 1) := by decide +kernel
theorem dX7_hasPupil_47 : decode cX7_hasPupil 47 = .ok (.ireturn, 1) := by decide +kernel
theorem dX7_hasPupil_48 : decode cX7_hasPupil 48 = .ok (.iinc 3 1, 3) := by decide +kernel
theorem dX7_hasPupil_51 : decode cX7_hasPupil 51 = .ok (.goto (-49), 3) := by decide +kernel
theorem dX7_hasPupil_54 : decode cX7_hasPupil 54 = .ok (.iconst 0, 1) := by decide +kernel
theorem dX7_hasPupil_55 : decode cX7_hasPupil 55 = .ok (.ireturn, 1) := by decide +kernel
theorem dX7_isInZone_0 : decode cX7_isInZone 0 = .ok (.bipush 92, 2) := by decide +kernel
theorem dX7_isInZone_2 : decode cX7_isInZone 2 = .ok (.iconst 4, 1) := by decide +kernel
theorem dX7_isInZone_3 : decode cX7_isInZone 3 = .ok (.iload_n 2, 1) := by decide +kernel
theorem dX7_isInZone_4 : decode cX7_isInZone 4 = .ok (.imul, 1) := by decide +kernel
theorem dX7_isInZone_5 : decode cX7_isInZone 5 = .ok (.iadd, 1) := by decide +kernel
theorem dX7_isInZone_6 : decode cX7_isInZone 6 = .ok (.istore_n 3, 1) := by decide +kernel
theorem dX7_isInZone_7 : decode cX7_isInZone 7 = .ok (.aload_n 0, 1) := by decide +kernel
theorem dX7_isInZone_8 : decode cX7_isInZone 8 = .ok (.getfield 7, 3) := by decide +kernel
theorem dX7_isInZone_11 : decode cX7_isInZone 11 = .ok (.bipush 52, 2) := by decide +kernel
theorem dX7_isInZone_13 : decode cX7_isInZone 13 = .ok (.iload_n 2, 1) := by decide +kernel
theorem dX7_isInZone_14 : decode cX7_isInZone 14 = .ok (.iadd, 1) := by decide +kernel
theorem dX7_isInZone_15 : decode cX7_isInZone 15 = .ok (.iaload, 1) := by decide +kernel
theorem dX7_isInZone_16 : decode cX7_isInZone 16 = .ok (.iconst 1, 1) := by decide +kernel
theorem dX7_isInZone_17 : decode cX7_isInZone 17 = .ok (.if_icmp .ne 68, 3) := by decide +kernel
theorem dX7_isInZone_20 : decode cX7_isInZone 20 = .ok (.aload_n 0, 1) := by decide +kernel
theorem dX7_isInZone_21 : decode cX7_isInZone 21 = .ok (.getfield 7, 3) := by decide +kernel
theorem dX7_isInZone_24 : decode cX7_isInZone 24 = .ok (.bipush 124, 2) := by decide +kernel
theorem dX7_isInZone_26 : decode cX7_isInZone 26 = .ok (.iload_n 1, 1) := by decide +kernel
theorem dX7_isInZone_27 : decode cX7_isInZone 27 = .ok (.iadd, 1) := by decide +kernel
theorem dX7_isInZone_28 : decode cX7_isInZone 28 = .ok (.iaload, 1) := by decide +kernel
theorem dX7_isInZone_29 : decode cX7_isInZone 29 = .ok (.aload_n 0, 1) := by decide +kernel
theorem dX7_isInZone_30 : decode cX7_isInZone 30 = .ok (.getfield 7, 3) := by decide +kernel
theorem dX7_isInZone_33 : decode cX7_isInZone 33 = .ok (.iload_n 3, 1) := by decide +kernel
theorem dX7_isInZone_34 : decode cX7_isInZone 34 = .ok (.iaload, 1) := by decide +kernel
theorem dX7_isInZone_35 : decode cX7_isInZone 35 = .ok (.aload_n 0, 1) := by decide +kernel
theorem dX7_isInZone_36 : decode cX7_isInZone 36 = .ok (.getfield 7, 3) := by decide +kernel
theorem dX7_isInZone_39 : decode cX7_isInZone 39 = .ok (.iload_n 3, 1) := by decide +kernel
theorem dX7_isInZone_40 : decode cX7_isInZone 40 = .ok (.iconst 2, 1) := by decide +kernel
theorem dX7_isInZone_41 : decode cX7_isInZone 41 = .ok (.iadd, 1) := by decide +kernel
theorem dX7_isInZone_42 : decode cX7_isInZone 42 = .ok (.iaload, 1) := by decide +kernel
theorem dX7_isInZone_43 : decode cX7_isInZone 43 = .ok (.invokestatic 66, 3) := by decide +kernel
theorem dX7_isInZone_46 : decode cX7_isInZone 46 = .ok (.ifCond .eq 39, 3) := by decide +kernel
theorem dX7_isInZone_49 : decode cX7_isInZone 49 = .ok (.aload_n 0, 1) := by decide +kernel
theorem dX7_isInZone_50 : decode cX7_isInZone 50 = .ok (.getfield 7, 3) := by decide +kernel
theorem dX7_isInZone_53 : decode cX7_isInZone 53 = .ok (.sipush 164, 3) := by decide +kernel
theorem dX7_isInZone_56 : decode cX7_isInZone 56 = .ok (.iload_n 1, 1) := by decide +kernel
theorem dX7_isInZone_57 : decode cX7_isInZone 57 = .ok (.iadd, 1) := by decide +kernel
theorem dX7_isInZone_58 : decode cX7_isInZone 58 = .ok (.iaload, 1) := by decide +kernel
theorem dX7_isInZone_59 : decode cX7_isInZone 59 = .ok (.aload_n 0, 1) := by decide +kernel
theorem dX7_isInZone_60 : decode cX7_isInZone 60 = .ok (.getfield 7, 3) := by decide +kernel
theorem dX7_isInZone_63 : decode cX7_isInZone 63 = .ok (.iload_n 3, 1) := by decide +kernel
theorem dX7_isInZone_64 : decode cX7_isInZone 64 = .ok (.iconst 1, 1) := by decide +kernel
theorem dX7_isInZone_65 : decode cX7_isInZone 65 = .ok (.iadd, 1) := by decide +kernel
theorem dX7_isInZone_66 : decode cX7_isInZone 66 = .ok (.iaload, 1) := by decide +kernel
theorem dX7_isInZone_67 : decode cX7_isInZone 67 = .ok (.aload_n 0, 1) := by decide +kernel
theorem dX7_isInZone_68 : decode cX7_isInZone 68 = .ok (.getfield 7, 3) := by decide +kernel
theorem dX7_isInZone_71 : decode cX7_isInZone 71 = .ok (.iload_n 3, 1) := by decide +kernel
theorem dX7_isInZone_72 : decode cX7_isInZone 72 = .ok (.iconst 3, 1) := by decide +kernel
theorem dX7_isInZone_73 : decode cX7_isInZone 73 = .ok (.iadd, 1) := by decide +kernel
theorem dX7_isInZone_74 : decode cX7_isInZone 74 = .ok (.iaload, 1) := by decide +kernel
theorem dX7_isInZone_75 : decode cX7_isInZone 75 = .ok (.invokestatic 66, 3) := by decide +kernel
theorem dX7_isInZone_78 : decode cX7_isInZone 78 = .ok (.ifCond .eq 7, 3) := by decide +kernel
theorem dX7_isInZone_81 : decode cX7_isInZone 81 = .ok (.iconst 1, 1) := by decide +kernel
theorem dX7_isInZone_82 : decode cX7_isInZone 82 = .ok (.goto 4, 3) := by decide +kernel
theorem dX7_isInZone_85 : decode cX7_isInZone 85 = .ok (.iconst 0, 1) := by decide +kernel
theorem dX7_isInZone_86 : decode cX7_isInZone 86 = .ok (.ireturn, 1) := by decide +kernel
theorem dX7_meetsRule_0 : decode cX7_meetsRule 0 = .ok (.iload_n 3, 1) := by decide +kernel
theorem dX7_meetsRule_1 : decode cX7_meetsRule 1 = .ok (.ifCond .ne 23, 3) := by decide +kernel
theorem dX7_meetsRule_4 : decode cX7_meetsRule 4 = .ok (.aload_n 0, 1) := by decide +kernel
theorem dX7_meetsRule_5 : decode cX7_meetsRule 5 = .ok (.getfield 7, 3) := by decide +kernel
theorem dX7_meetsRule_8 : decode cX7_meetsRule 8 = .ok (.sipush 244, 3) := by decide +kernel
theorem dX7_meetsRule_11 : decode cX7_meetsRule 11 = .ok (.iload_n 1, 1) := by decide +kernel
theorem dX7_meetsRule_12 : decode cX7_meetsRule 12 = .ok (.iadd, 1) := by decide +kernel
theorem dX7_meetsRule_13 : decode cX7_meetsRule 13 = .ok (.iaload, 1) := by decide +kernel
theorem dX7_meetsRule_14 : decode cX7_meetsRule 14 = .ok (.iconst 1, 1) := by decide +kernel
theorem dX7_meetsRule_15 : decode cX7_meetsRule 15 = .ok (.if_icmp .ne 7, 3) := by decide +kernel
theorem dX7_meetsRule_18 : decode cX7_meetsRule 18 = .ok (.iconst 1, 1) := by decide +kernel
theorem dX7_meetsRule_19 : decode cX7_meetsRule 19 = .ok (.goto 4, 3) := by decide +kernel
theorem dX7_meetsRule_22 : decode cX7_meetsRule 22 = .ok (.iconst 0, 1) := by decide +kernel
theorem dX7_meetsRule_23 : decode cX7_meetsRule 23 = .ok (.ireturn, 1) := by decide +kernel
theorem dX7_meetsRule_24 : decode cX7_meetsRule 24 = .ok (.iload_n 3, 1) := by decide +kernel
theorem dX7_meetsRule_25 : decode cX7_meetsRule 25 = .ok (.iconst 1, 1) := by decide +kernel
theorem dX7_meetsRule_26 : decode cX7_meetsRule 26 = .ok (.if_icmp .ne 40, 3) := by decide +kernel
theorem dX7_meetsRule_29 : decode cX7_meetsRule 29 = .ok (.aload_n 0, 1) := by decide +kernel
theorem dX7_meetsRule_30 : decode cX7_meetsRule 30 = .ok (.getfield 7, 3) := by decide +kernel
theorem dX7_meetsRule_33 : decode cX7_meetsRule 33 = .ok (.sipush 204, 3) := by decide +kernel
theorem dX7_meetsRule_36 : decode cX7_meetsRule 36 = .ok (.iload_n 1, 1) := by decide +kernel
theorem dX7_meetsRule_37 : decode cX7_meetsRule 37 = .ok (.iadd, 1) := by decide +kernel
theorem dX7_meetsRule_38 : decode cX7_meetsRule 38 = .ok (.iaload, 1) := by decide +kernel
theorem dX7_meetsRule_39 : decode cX7_meetsRule 39 = .ok (.ifCond .eq 25, 3) := by decide +kernel
theorem dX7_meetsRule_42 : decode cX7_meetsRule 42 = .ok (.aload_n 0, 1) := by decide +kernel
theorem dX7_meetsRule_43 : decode cX7_meetsRule 43 = .ok (.aload_n 0, 1) := by decide +kernel
theorem dX7_meetsRule_44 : decode cX7_meetsRule 44 = .ok (.getfield 7, 3) := by decide +kernel
theorem dX7_meetsRule_47 : decode cX7_meetsRule 47 = .ok (.sipush 204, 3) := by decide +kernel
theorem dX7_meetsRule_50 : decode cX7_meetsRule 50 = .ok (.iload_n 1, 1) := by decide +kernel
theorem dX7_meetsRule_51 : decode cX7_meetsRule 51 = .ok (.iadd, 1) := by decide +kernel
theorem dX7_meetsRule_52 : decode cX7_meetsRule 52 = .ok (.iaload, 1) := by decide +kernel
theorem dX7_meetsRule_53 : decode cX7_meetsRule 53 = .ok (.iload_n 2, 1) := by decide +kernel
theorem dX7_meetsRule_54 : decode cX7_meetsRule 54 = .ok (.invokevirtual 70, 3) := by decide +kernel
theorem dX7_meetsRule_57 : decode cX7_meetsRule 57 = .ok (.ifCond .eq 7, 3) := by decide +kernel
theorem dX7_meetsRule_60 : decode cX7_meetsRule 60 = .ok (.iconst 1, 1) := by decide +kernel
theorem dX7_meetsRule_61 : decode cX7_meetsRule 61 = .ok (.goto 4, 3) := by decide +kernel
theorem dX7_meetsRule_64 : decode cX7_meetsRule 64 = .ok (.iconst 0, 1) := by decide +kernel
theorem dX7_meetsRule_65 : decode cX7_meetsRule 65 = .ok (.ireturn, 1) := by decide +kernel
theorem dX7_meetsRule_66 : decode cX7_meetsRule 66 = .ok (.aload_n 0, 1) := by decide +kernel
theorem dX7_meetsRule_67 : decode cX7_meetsRule 67 = .ok (.iload_n 1, 1) := by decide +kernel
theorem dX7_meetsRule_68 : decode cX7_meetsRule 68 = .ok (.iload_n 2, 1) := by decide +kernel
theorem dX7_meetsRule_69 : decode cX7_meetsRule 69 = .ok (.invokevirtual 74, 3) := by decide +kernel
theorem dX7_meetsRule_72 : decode cX7_meetsRule 72 = .ok (.ireturn, 1) := by decide +kernel
theorem dX7_classAt_0 : decode cX7_classAt 0 = .ok (.iconst 0, 1) := by decide +kernel
theorem dX7_classAt_1 : decode cX7_classAt 1 = .ok (.istore_n 3, 1) := by decide +kernel
theorem dX7_classAt_2 : decode cX7_classAt 2 = .ok (.iload_n 3, 1) := by decide +kernel
theorem dX7_classAt_3 : decode cX7_classAt 3 = .ok (.aload_n 0, 1) := by decide +kernel
theorem dX7_classAt_4 : decode cX7_classAt 4 = .ok (.getfield 7, 3) := by decide +kernel
theorem dX7_classAt_7 : decode cX7_classAt 7 = .ok (.bipush 44, 2) := by decide +kernel
theorem dX7_classAt_9 : decode cX7_classAt 9 = .ok (.iload_n 2, 1) := by decide +kernel
theorem dX7_classAt_10 : decode cX7_classAt 10 = .ok (.iadd, 1) := by decide +kernel
theorem dX7_classAt_11 : decode cX7_classAt 11 = .ok (.iaload, 1) := by decide +kernel
theorem dX7_classAt_12 : decode cX7_classAt 12 = .ok (.if_icmp .ge 31, 3) := by decide +kernel
theorem dX7_classAt_15 : decode cX7_classAt 15 = .ok (.aload_n 0, 1) := by decide +kernel
theorem dX7_classAt_16 : decode cX7_classAt 16 = .ok (.iload_n 1, 1) := by decide +kernel
theorem dX7_classAt_17 : decode cX7_classAt 17 = .ok (.iload_n 2, 1) := by decide +kernel
theorem dX7_classAt_18 : decode cX7_classAt 18 = .ok (.aload_n 0, 1) := by decide +kernel
theorem dX7_classAt_19 : decode cX7_classAt 19 = .ok (.getfield 7, 3) := by decide +kernel
theorem dX7_classAt_22 : decode cX7_classAt 22 = .ok (.bipush 68, 2) := by decide +kernel
theorem dX7_classAt_24 : decode cX7_classAt 24 = .ok (.iconst 3, 1) := by decide +kernel
theorem dX7_classAt_25 : decode cX7_classAt 25 = .ok (.iload_n 2, 1) := by decide +kernel
theorem dX7_classAt_26 : decode cX7_classAt 26 = .ok (.imul, 1) := by decide +kernel
theorem dX7_classAt_27 : decode cX7_classAt 27 = .ok (.iadd, 1) := by decide +kernel
theorem dX7_classAt_28 : decode cX7_classAt 28 = .ok (.iload_n 3, 1) := by decide +kernel
theorem dX7_classAt_29 : decode cX7_classAt 29 = .ok (.iadd, 1) := by decide +kernel
theorem dX7_classAt_30 : decode cX7_classAt 30 = .ok (.iaload, 1) := by decide +kernel
theorem dX7_classAt_31 : decode cX7_classAt 31 = .ok (.invokevirtual 77, 3) := by decide +kernel
theorem dX7_classAt_34 : decode cX7_classAt 34 = .ok (.ifCond .ne 9, 3) := by decide +kernel
theorem dX7_classAt_37 : decode cX7_classAt 37 = .ok (.iinc 3 1, 3) := by decide +kernel
theorem dX7_classAt_40 : decode cX7_classAt 40 = .ok (.goto (-38), 3) := by decide +kernel
theorem dX7_classAt_43 : decode cX7_classAt 43 = .ok (.iload_n 3, 1) := by decide +kernel
theorem dX7_classAt_44 : decode cX7_classAt 44 = .ok (.ireturn, 1) := by decide +kernel
theorem dX7_far_0 : decode cX7_far 0 = .ok (.aload_n 0, 1) := by decide +kernel
theorem dX7_far_1 : decode cX7_far 1 = .ok (.getfield 7, 3) := by decide +kernel
theorem dX7_far_4 : decode cX7_far 4 = .ok (.bipush 124, 2) := by decide +kernel
theorem dX7_far_6 : decode cX7_far 6 = .ok (.iload_n 1, 1) := by decide +kernel
theorem dX7_far_7 : decode cX7_far 7 = .ok (.iadd, 1) := by decide +kernel
theorem dX7_far_8 : decode cX7_far 8 = .ok (.iaload, 1) := by decide +kernel
theorem dX7_far_9 : decode cX7_far 9 = .ok (.aload_n 0, 1) := by decide +kernel
theorem dX7_far_10 : decode cX7_far 10 = .ok (.getfield 7, 3) := by decide +kernel
theorem dX7_far_13 : decode cX7_far 13 = .ok (.bipush 28, 2) := by decide +kernel
theorem dX7_far_15 : decode cX7_far 15 = .ok (.iload_n 2, 1) := by decide +kernel
theorem dX7_far_16 : decode cX7_far 16 = .ok (.iadd, 1) := by decide +kernel
theorem dX7_far_17 : decode cX7_far 17 = .ok (.iaload, 1) := by decide +kernel
theorem dX7_far_18 : decode cX7_far 18 = .ok (.isub, 1) := by decide +kernel
theorem dX7_far_19 : decode cX7_far 19 = .ok (.istore_n 3, 1) := by decide +kernel
theorem dX7_far_20 : decode cX7_far 20 = .ok (.aload_n 0, 1) := by decide +kernel
theorem dX7_far_21 : decode cX7_far 21 = .ok (.getfield 7, 3) := by decide +kernel
theorem dX7_far_24 : decode cX7_far 24 = .ok (.sipush 164, 3) := by decide +kernel
theorem dX7_far_27 : decode cX7_far 27 = .ok (.iload_n 1, 1) := by decide +kernel
theorem dX7_far_28 : decode cX7_far 28 = .ok (.iadd, 1) := by decide +kernel
theorem dX7_far_29 : decode cX7_far 29 = .ok (.iaload, 1) := by decide +kernel
theorem dX7_far_30 : decode cX7_far 30 = .ok (.aload_n 0, 1) := by decide +kernel
theorem dX7_far_31 : decode cX7_far 31 = .ok (.getfield 7, 3) := by decide +kernel
theorem dX7_far_34 : decode cX7_far 34 = .ok (.bipush 36, 2) := by decide +kernel
theorem dX7_far_36 : decode cX7_far 36 = .ok (.iload_n 2, 1) := by decide +kernel
theorem dX7_far_37 : decode cX7_far 37 = .ok (.iadd, 1) := by decide +kernel
theorem dX7_far_38 : decode cX7_far 38 = .ok (.iaload, 1) := by decide +kernel
theorem dX7_far_39 : decode cX7_far 39 = .ok (.isub, 1) := by decide +kernel
theorem dX7_far_40 : decode cX7_far 40 = .ok (.istore 4, 2) := by decide +kernel
theorem dX7_far_42 : decode cX7_far 42 = .ok (.iload_n 3, 1) := by decide +kernel
theorem dX7_far_43 : decode cX7_far 43 = .ok (.iload_n 3, 1) := by decide +kernel
theorem dX7_far_44 : decode cX7_far 44 = .ok (.imul, 1) := by decide +kernel
theorem dX7_far_45 : decode cX7_far 45 = .ok (.iload 4, 2) := by decide +kernel
theorem dX7_far_47 : decode cX7_far 47 = .ok (.iload 4, 2) := by decide +kernel
theorem dX7_far_49 : decode cX7_far 49 = .ok (.imul, 1) := by decide +kernel
theorem dX7_far_50 : decode cX7_far 50 = .ok (.iadd, 1) := by decide +kernel
theorem dX7_far_51 : decode cX7_far 51 = .ok (.ireturn, 1) := by decide +kernel
theorem dX7_isAhead_0 : decode cX7_isAhead 0 = .ok (.aload_n 0, 1) := by decide +kernel
theorem dX7_isAhead_1 : decode cX7_isAhead 1 = .ok (.getfield 7, 3) := by decide +kernel
theorem dX7_isAhead_4 : decode cX7_isAhead 4 = .ok (.bipush 7, 2) := by decide +kernel
theorem dX7_isAhead_6 : decode cX7_isAhead 6 = .ok (.iaload, 1) := by decide +kernel
theorem dX7_isAhead_7 : decode cX7_isAhead 7 = .ok (.iconst 1, 1) := by decide +kernel
theorem dX7_isAhead_8 : decode cX7_isAhead 8 = .ok (.if_icmp .ne 55, 3) := by decide +kernel
theorem dX7_isAhead_11 : decode cX7_isAhead 11 = .ok (.aload_n 0, 1) := by decide +kernel
theorem dX7_isAhead_12 : decode cX7_isAhead 12 = .ok (.getfield 7, 3) := by decide +kernel
theorem dX7_isAhead_15 : decode cX7_isAhead 15 = .ok (.sipush 364, 3) := by decide +kernel
theorem dX7_isAhead_18 : decode cX7_isAhead 18 = .ok (.iload_n 2, 1) := by decide +kernel
theorem dX7_isAhead_19 : decode cX7_isAhead 19 = .ok (.iadd, 1) := by decide +kernel
theorem dX7_isAhead_20 : decode cX7_isAhead 20 = .ok (.iaload, 1) := by decide +kernel
theorem dX7_isAhead_21 : decode cX7_isAhead 21 = .ok (.aload_n 0, 1) := by decide +kernel
theorem dX7_isAhead_22 : decode cX7_isAhead 22 = .ok (.getfield 7, 3) := by decide +kernel
theorem dX7_isAhead_25 : decode cX7_isAhead 25 = .ok (.sipush 364, 3) := by decide +kernel
theorem dX7_isAhead_28 : decode cX7_isAhead 28 = .ok (.iload_n 3, 1) := by decide +kernel
theorem dX7_isAhead_29 : decode cX7_isAhead 29 = .ok (.iadd, 1) := by decide +kernel
theorem dX7_isAhead_30 : decode cX7_isAhead 30 = .ok (.iaload, 1) := by decide +kernel
theorem dX7_isAhead_31 : decode cX7_isAhead 31 = .ok (.if_icmp .eq 32, 3) := by decide +kernel
theorem dX7_isAhead_34 : decode cX7_isAhead 34 = .ok (.aload_n 0, 1) := by decide +kernel
theorem dX7_isAhead_35 : decode cX7_isAhead 35 = .ok (.getfield 7, 3) := by decide +kernel
theorem dX7_isAhead_38 : decode cX7_isAhead 38 = .ok (.sipush 364, 3) := by decide +kernel
theorem dX7_isAhead_41 : decode cX7_isAhead 41 = .ok (.iload_n 2, 1) := by decide +kernel
theorem dX7_isAhead_42 : decode cX7_isAhead 42 = .ok (.iadd, 1) := by decide +kernel
theorem dX7_isAhead_43 : decode cX7_isAhead 43 = .ok (.iaload, 1) := by decide +kernel
theorem dX7_isAhead_44 : decode cX7_isAhead 44 = .ok (.aload_n 0, 1) := by decide +kernel
theorem dX7_isAhead_45 : decode cX7_isAhead 45 = .ok (.getfield 7, 3) := by decide +kernel
theorem dX7_isAhead_48 : decode cX7_isAhead 48 = .ok (.sipush 364, 3) := by decide +kernel
theorem dX7_isAhead_51 : decode cX7_isAhead 51 = .ok (.iload_n 3, 1) := by decide +kernel
theorem dX7_isAhead_52 : decode cX7_isAhead 52 = .ok (.iadd, 1) := by decide +kernel
theorem dX7_isAhead_53 : decode cX7_isAhead 53 = .ok (.iaload, 1) := by decide +kernel
theorem dX7_isAhead_54 : decode cX7_isAhead 54 = .ok (.if_icmp .ge 7, 3) := by decide +kernel
theorem dX7_isAhead_57 : decode cX7_isAhead 57 = .ok (.iconst 1, 1) := by decide +kernel
theorem dX7_isAhead_58 : decode cX7_isAhead 58 = .ok (.goto 4, 3) := by decide +kernel
theorem dX7_isAhead_61 : decode cX7_isAhead 61 = .ok (.iconst 0, 1) := by decide +kernel
theorem dX7_isAhead_62 : decode cX7_isAhead 62 = .ok (.ireturn, 1) := by decide +kernel
theorem dX7_isAhead_63 : decode cX7_isAhead 63 = .ok (.aload_n 0, 1) := by decide +kernel
theorem dX7_isAhead_64 : decode cX7_isAhead 64 = .ok (.iload_n 2, 1) := by decide +kernel
theorem dX7_isAhead_65 : decode cX7_isAhead 65 = .ok (.iload_n 1, 1) := by decide +kernel
theorem dX7_isAhead_66 : decode cX7_isAhead 66 = .ok (.invokevirtual 80, 3) := by decide +kernel
theorem dX7_isAhead_69 : decode cX7_isAhead 69 = .ok (.istore 4, 2) := by decide +kernel
theorem dX7_isAhead_71 : decode cX7_isAhead 71 = .ok (.aload_n 0, 1) := by decide +kernel
theorem dX7_isAhead_72 : decode cX7_isAhead 72 = .ok (.iload_n 3, 1) := by decide +kernel
theorem dX7_isAhead_73 : decode cX7_isAhead 73 = .ok (.iload_n 1, 1) := by decide +kernel
theorem dX7_isAhead_74 : decode cX7_isAhead 74 = .ok (.invokevirtual 80, 3) := by decide +kernel
theorem dX7_isAhead_77 : decode cX7_isAhead 77 = .ok (.istore 5, 2) := by decide +kernel
theorem dX7_isAhead_79 : decode cX7_isAhead 79 = .ok (.iload 4, 2) := by decide +kernel
theorem dX7_isAhead_81 : decode cX7_isAhead 81 = .ok (.iload 5, 2) := by decide +kernel
theorem dX7_isAhead_83 : decode cX7_isAhead 83 = .ok (.if_icmp .eq 16, 3) := by decide +kernel
theorem dX7_isAhead_86 : decode cX7_isAhead 86 = .ok (.iload 4, 2) := by decide +kernel
theorem dX7_isAhead_88 : decode cX7_isAhead 88 = .ok (.iload 5, 2) := by decide +kernel
theorem dX7_isAhead_90 : decode cX7_isAhead 90 = .ok (.if_icmp .ge 7, 3) := by decide +kernel
theorem dX7_isAhead_93 : decode cX7_isAhead 93 = .ok (.iconst 1, 1) := by decide +kernel
theorem dX7_isAhead_94 : decode cX7_isAhead 94 = .ok (.goto 4, 3) := by decide +kernel
theorem dX7_isAhead_97 : decode cX7_isAhead 97 = .ok (.iconst 0, 1) := by decide +kernel
theorem dX7_isAhead_98 : decode cX7_isAhead 98 = .ok (.ireturn, 1) := by decide +kernel
theorem dX7_isAhead_99 : decode cX7_isAhead 99 = .ok (.aload_n 0, 1) := by decide +kernel
theorem dX7_isAhead_100 : decode cX7_isAhead 100 = .ok (.iload_n 2, 1) := by decide +kernel
theorem dX7_isAhead_101 : decode cX7_isAhead 101 = .ok (.iload_n 1, 1) := by decide +kernel
theorem dX7_isAhead_102 : decode cX7_isAhead 102 = .ok (.invokevirtual 84, 3) := by decide +kernel
theorem dX7_isAhead_105 : decode cX7_isAhead 105 = .ok (.aload_n 0, 1) := by decide +kernel
theorem dX7_isAhead_106 : decode cX7_isAhead 106 = .ok (.iload_n 3, 1) := by decide +kernel
theorem dX7_isAhead_107 : decode cX7_isAhead 107 = .ok (.iload_n 1, 1) := by decide +kernel
theorem dX7_isAhead_108 : decode cX7_isAhead 108 = .ok (.invokevirtual 84, 3) := by decide +kernel
theorem dX7_isAhead_111 : decode cX7_isAhead 111 = .ok (.if_icmp .eq 24, 3) := by decide +kernel
theorem dX7_isAhead_114 : decode cX7_isAhead 114 = .ok (.aload_n 0, 1) := by decide +kernel
theorem dX7_isAhead_115 : decode cX7_isAhead 115 = .ok (.iload_n 2, 1) := by decide +kernel
theorem dX7_isAhead_116 : decode cX7_isAhead 116 = .ok (.iload_n 1, 1) := by decide +kernel
theorem dX7_isAhead_117 : decode cX7_isAhead 117 = .ok (.invokevirtual 84, 3) := by decide +kernel
theorem dX7_isAhead_120 : decode cX7_isAhead 120 = .ok (.aload_n 0, 1) := by decide +kernel
theorem dX7_isAhead_121 : decode cX7_isAhead 121 = .ok (.iload_n 3, 1) := by decide +kernel
theorem dX7_isAhead_122 : decode cX7_isAhead 122 = .ok (.iload_n 1, 1) := by decide +kernel
theorem dX7_isAhead_123 : decode cX7_isAhead 123 = .ok (.invokevirtual 84, 3) := by decide +kernel
theorem dX7_isAhead_126 : decode cX7_isAhead 126 = .ok (.if_icmp .ge 7, 3) := by decide +kernel
theorem dX7_isAhead_129 : decode cX7_isAhead 129 = .ok (.iconst 1, 1) := by decide +kernel
theorem dX7_isAhead_130 : decode cX7_isAhead 130 = .ok (.goto 4, 3) := by decide +kernel
theorem dX7_isAhead_133 : decode cX7_isAhead 133 = .ok (.iconst 0, 1) := by decide +kernel
theorem dX7_isAhead_134 : decode cX7_isAhead 134 = .ok (.ireturn, 1) := by decide +kernel
theorem dX7_isAhead_135 : decode cX7_isAhead 135 = .ok (.aload_n 0, 1) := by decide +kernel
theorem dX7_isAhead_136 : decode cX7_isAhead 136 = .ok (.getfield 7, 3) := by decide +kernel
theorem dX7_isAhead_139 : decode cX7_isAhead 139 = .ok (.sipush 284, 3) := by decide +kernel
theorem dX7_isAhead_142 : decode cX7_isAhead 142 = .ok (.iload_n 2, 1) := by decide +kernel
theorem dX7_isAhead_143 : decode cX7_isAhead 143 = .ok (.iadd, 1) := by decide +kernel
theorem dX7_isAhead_144 : decode cX7_isAhead 144 = .ok (.iaload, 1) := by decide +kernel
theorem dX7_isAhead_145 : decode cX7_isAhead 145 = .ok (.aload_n 0, 1) := by decide +kernel
theorem dX7_isAhead_146 : decode cX7_isAhead 146 = .ok (.getfield 7, 3) := by decide +kernel
theorem dX7_isAhead_149 : decode cX7_isAhead 149 = .ok (.sipush 284, 3) := by decide +kernel
theorem dX7_isAhead_152 : decode cX7_isAhead 152 = .ok (.iload_n 3, 1) := by decide +kernel
theorem dX7_isAhead_153 : decode cX7_isAhead 153 = .ok (.iadd, 1) := by decide +kernel
theorem dX7_isAhead_154 : decode cX7_isAhead 154 = .ok (.iaload, 1) := by decide +kernel
theorem dX7_isAhead_155 : decode cX7_isAhead 155 = .ok (.if_icmp .eq 32, 3) := by decide +kernel
theorem dX7_isAhead_158 : decode cX7_isAhead 158 = .ok (.aload_n 0, 1) := by decide +kernel
theorem dX7_isAhead_159 : decode cX7_isAhead 159 = .ok (.getfield 7, 3) := by decide +kernel
theorem dX7_isAhead_162 : decode cX7_isAhead 162 = .ok (.sipush 284, 3) := by decide +kernel
theorem dX7_isAhead_165 : decode cX7_isAhead 165 = .ok (.iload_n 2, 1) := by decide +kernel
theorem dX7_isAhead_166 : decode cX7_isAhead 166 = .ok (.iadd, 1) := by decide +kernel
theorem dX7_isAhead_167 : decode cX7_isAhead 167 = .ok (.iaload, 1) := by decide +kernel
theorem dX7_isAhead_168 : decode cX7_isAhead 168 = .ok (.aload_n 0, 1) := by decide +kernel
theorem dX7_isAhead_169 : decode cX7_isAhead 169 = .ok (.getfield 7, 3) := by decide +kernel
theorem dX7_isAhead_172 : decode cX7_isAhead 172 = .ok (.sipush 284, 3) := by decide +kernel
theorem dX7_isAhead_175 : decode cX7_isAhead 175 = .ok (.iload_n 3, 1) := by decide +kernel
theorem dX7_isAhead_176 : decode cX7_isAhead 176 = .ok (.iadd, 1) := by decide +kernel
theorem dX7_isAhead_177 : decode cX7_isAhead 177 = .ok (.iaload, 1) := by decide +kernel
theorem dX7_isAhead_178 : decode cX7_isAhead 178 = .ok (.if_icmp .ge 7, 3) := by decide +kernel
theorem dX7_isAhead_181 : decode cX7_isAhead 181 = .ok (.iconst 1, 1) := by decide +kernel
theorem dX7_isAhead_182 : decode cX7_isAhead 182 = .ok (.goto 4, 3) := by decide +kernel
theorem dX7_isAhead_185 : decode cX7_isAhead 185 = .ok (.iconst 0, 1) := by decide +kernel
theorem dX7_isAhead_186 : decode cX7_isAhead 186 = .ok (.ireturn, 1) := by decide +kernel
theorem dX7_isAhead_187 : decode cX7_isAhead 187 = .ok (.iload_n 2, 1) := by decide +kernel
theorem dX7_isAhead_188 : decode cX7_isAhead 188 = .ok (.iload_n 3, 1) := by decide +kernel
theorem dX7_isAhead_189 : decode cX7_isAhead 189 = .ok (.if_icmp .ge 7, 3) := by decide +kernel
theorem dX7_isAhead_192 : decode cX7_isAhead 192 = .ok (.iconst 1, 1) := by decide +kernel
theorem dX7_isAhead_193 : decode cX7_isAhead 193 = .ok (.goto 4, 3) := by decide +kernel
theorem dX7_isAhead_196 : decode cX7_isAhead 196 = .ok (.iconst 0, 1) := by decide +kernel
theorem dX7_isAhead_197 : decode cX7_isAhead 197 = .ok (.ireturn, 1) := by decide +kernel
theorem dX7_isHere_0 : decode cX7_isHere 0 = .ok (.aload_n 0, 1) := by decide +kernel
theorem dX7_isHere_1 : decode cX7_isHere 1 = .ok (.getfield 7, 3) := by decide +kernel
theorem dX7_isHere_4 : decode cX7_isHere 4 = .ok (.sipush 404, 3) := by decide +kernel
theorem dX7_isHere_7 : decode cX7_isHere 7 = .ok (.iload_n 1, 1) := by decide +kernel
theorem dX7_isHere_8 : decode cX7_isHere 8 = .ok (.iadd, 1) := by decide +kernel
theorem dX7_isHere_9 : decode cX7_isHere 9 = .ok (.iaload, 1) := by decide +kernel
theorem dX7_isHere_10 : decode cX7_isHere 10 = .ok (.ifCond .ne 7, 3) := by decide +kernel
theorem dX7_isHere_13 : decode cX7_isHere 13 = .ok (.iconst 1, 1) := by decide +kernel
theorem dX7_isHere_14 : decode cX7_isHere 14 = .ok (.goto 4, 3) := by decide +kernel
theorem dX7_isHere_17 : decode cX7_isHere 17 = .ok (.iconst 0, 1) := by decide +kernel
theorem dX7_isHere_18 : decode cX7_isHere 18 = .ok (.ireturn, 1) := by decide +kernel
theorem dX7_wishOf_0 : decode cX7_wishOf 0 = .ok (.iconst 0, 1) := by decide +kernel
theorem dX7_wishOf_1 : decode cX7_wishOf 1 = .ok (.istore_n 3, 1) := by decide +kernel
theorem dX7_wishOf_2 : decode cX7_wishOf 2 = .ok (.iload_n 3, 1) := by decide +kernel
theorem dX7_wishOf_3 : decode cX7_wishOf 3 = .ok (.aload_n 0, 1) := by decide +kernel
theorem dX7_wishOf_4 : decode cX7_wishOf 4 = .ok (.getfield 7, 3) := by decide +kernel
theorem dX7_wishOf_7 : decode cX7_wishOf 7 = .ok (.sipush 324, 3) := by decide +kernel
theorem dX7_wishOf_10 : decode cX7_wishOf 10 = .ok (.iload_n 1, 1) := by decide +kernel
theorem dX7_wishOf_11 : decode cX7_wishOf 11 = .ok (.iadd, 1) := by decide +kernel
theorem dX7_wishOf_12 : decode cX7_wishOf 12 = .ok (.iaload, 1) := by decide +kernel
theorem dX7_wishOf_13 : decode cX7_wishOf 13 = .ok (.if_icmp .ge 29, 3) := by decide +kernel
theorem dX7_wishOf_16 : decode cX7_wishOf 16 = .ok (.aload_n 0, 1) := by decide +kernel
theorem dX7_wishOf_17 : decode cX7_wishOf 17 = .ok (.getfield 7, 3) := by decide +kernel
theorem dX7_wishOf_20 : decode cX7_wishOf 20 = .ok (.sipush 564, 3) := by decide +kernel
theorem dX7_wishOf_23 : decode cX7_wishOf 23 = .ok (.iconst 4, 1) := by decide +kernel
theorem dX7_wishOf_24 : decode cX7_wishOf 24 = .ok (.iload_n 1, 1) := by decide +kernel
theorem dX7_wishOf_25 : decode cX7_wishOf 25 = .ok (.imul, 1) := by decide +kernel
theorem dX7_wishOf_26 : decode cX7_wishOf 26 = .ok (.iadd, 1) := by decide +kernel
theorem dX7_wishOf_27 : decode cX7_wishOf 27 = .ok (.iload_n 3, 1) := by decide +kernel
theorem dX7_wishOf_28 : decode cX7_wishOf 28 = .ok (.iadd, 1) := by decide +kernel
theorem dX7_wishOf_29 : decode cX7_wishOf 29 = .ok (.iaload, 1) := by decide +kernel
theorem dX7_wishOf_30 : decode cX7_wishOf 30 = .ok (.iload_n 2, 1) := by decide +kernel
theorem dX7_wishOf_31 : decode cX7_wishOf 31 = .ok (.if_icmp .ne 5, 3) := by decide +kernel
theorem dX7_wishOf_34 : decode cX7_wishOf 34 = .ok (.iload_n 3, 1) := by decide +kernel
theorem dX7_wishOf_35 : decode cX7_wishOf 35 = .ok (.ireturn, 1) := by decide +kernel
theorem dX7_wishOf_36 : decode cX7_wishOf 36 = .ok (.iinc 3 1, 3) := by decide +kernel
theorem dX7_wishOf_39 : decode cX7_wishOf 39 = .ok (.goto (-37), 3) := by decide +kernel
theorem dX7_wishOf_42 : decode cX7_wishOf 42 = .ok (.iconst (-1), 1) := by decide +kernel
theorem dX7_wishOf_43 : decode cX7_wishOf 43 = .ok (.ireturn, 1) := by decide +kernel
theorem dX7_gotOf_0 : decode cX7_gotOf 0 = .ok (.aload_n 0, 1) := by decide +kernel
theorem dX7_gotOf_1 : decode cX7_gotOf 1 = .ok (.getfield 7, 3) := by decide +kernel
theorem dX7_gotOf_4 : decode cX7_gotOf 4 = .ok (.sipush 484, 3) := by decide +kernel
theorem dX7_gotOf_7 : decode cX7_gotOf 7 = .ok (.iload_n 1, 1) := by decide +kernel
theorem dX7_gotOf_8 : decode cX7_gotOf 8 = .ok (.iadd, 1) := by decide +kernel
theorem dX7_gotOf_9 : decode cX7_gotOf 9 = .ok (.iaload, 1) := by decide +kernel
theorem dX7_gotOf_10 : decode cX7_gotOf 10 = .ok (.iconst (-1), 1) := by decide +kernel
theorem dX7_gotOf_11 : decode cX7_gotOf 11 = .ok (.if_icmp .ne 7, 3) := by decide +kernel
theorem dX7_gotOf_14 : decode cX7_gotOf 14 = .ok (.iconst (-1), 1) := by decide +kernel
theorem dX7_gotOf_15 : decode cX7_gotOf 15 = .ok (.goto 18, 3) := by decide +kernel
theorem dX7_gotOf_18 : decode cX7_gotOf 18 = .ok (.aload_n 0, 1) := by decide +kernel
theorem dX7_gotOf_19 : decode cX7_gotOf 19 = .ok (.iload_n 1, 1) := by decide +kernel
theorem dX7_gotOf_20 : decode cX7_gotOf 20 = .ok (.aload_n 0, 1) := by decide +kernel
theorem dX7_gotOf_21 : decode cX7_gotOf 21 = .ok (.getfield 7, 3) := by decide +kernel
theorem dX7_gotOf_24 : decode cX7_gotOf 24 = .ok (.sipush 484, 3) := by decide +kernel
theorem dX7_gotOf_27 : decode cX7_gotOf 27 = .ok (.iload_n 1, 1) := by decide +kernel
theorem dX7_gotOf_28 : decode cX7_gotOf 28 = .ok (.iadd, 1) := by decide +kernel
theorem dX7_gotOf_29 : decode cX7_gotOf 29 = .ok (.iaload, 1) := by decide +kernel
theorem dX7_gotOf_30 : decode cX7_gotOf 30 = .ok (.invokevirtual 87, 3) := by decide +kernel
theorem dX7_gotOf_33 : decode cX7_gotOf 33 = .ok (.ireturn, 1) := by decide +kernel
theorem dX7_holders_0 : decode cX7_holders 0 = .ok (.iconst 0, 1) := by decide +kernel
theorem dX7_holders_1 : decode cX7_holders 1 = .ok (.istore_n 2, 1) := by decide +kernel
theorem dX7_holders_2 : decode cX7_holders 2 = .ok (.iconst 0, 1) := by decide +kernel
theorem dX7_holders_3 : decode cX7_holders 3 = .ok (.istore_n 3, 1) := by decide +kernel
theorem dX7_holders_4 : decode cX7_holders 4 = .ok (.iload_n 3, 1) := by decide +kernel
theorem dX7_holders_5 : decode cX7_holders 5 = .ok (.aload_n 0, 1) := by decide +kernel
theorem dX7_holders_6 : decode cX7_holders 6 = .ok (.getfield 7, 3) := by decide +kernel
theorem dX7_holders_9 : decode cX7_holders 9 = .ok (.iconst 1, 1) := by decide +kernel
theorem dX7_holders_10 : decode cX7_holders 10 = .ok (.iaload, 1) := by decide +kernel
theorem dX7_holders_11 : decode cX7_holders 11 = .ok (.if_icmp .ge 31, 3) := by decide +kernel
theorem dX7_holders_14 : decode cX7_holders 14 = .ok (.iload_n 2, 1) := by decide +kernel
theorem dX7_holders_15 : decode cX7_holders 15 = .ok (.aload_n 0, 1) := by decide +kernel
theorem dX7_holders_16 : decode cX7_holders 16 = .ok (.getfield 7, 3) := by decide +kernel
theorem dX7_holders_19 : decode cX7_holders 19 = .ok (.sipush 484, 3) := by decide +kernel
theorem dX7_holders_22 : decode cX7_holders 22 = .ok (.iload_n 3, 1) := by decide +kernel
theorem dX7_holders_23 : decode cX7_holders 23 = .ok (.iadd, 1) := by decide +kernel
theorem dX7_holders_24 : decode cX7_holders 24 = .ok (.iaload, 1) := by decide +kernel
theorem dX7_holders_25 : decode cX7_holders 25 = .ok (.iload_n 1, 1) := by decide +kernel
theorem dX7_holders_26 : decode cX7_holders 26 = .ok (.if_icmp .ne 7, 3) := by decide +kernel
theorem dX7_holders_29 : decode cX7_holders 29 = .ok (.iconst 1, 1) := by decide +kernel
theorem dX7_holders_30 : decode cX7_holders 30 = .ok (.goto 4, 3) := by decide +kernel
theorem dX7_holders_33 : decode cX7_holders 33 = .ok (.iconst 0, 1) := by decide +kernel
theorem dX7_holders_34 : decode cX7_holders 34 = .ok (.iadd, 1) := by decide +kernel
theorem dX7_holders_35 : decode cX7_holders 35 = .ok (.istore_n 2, 1) := by decide +kernel
theorem dX7_holders_36 : decode cX7_holders 36 = .ok (.iinc 3 1, 3) := by decide +kernel
theorem dX7_holders_39 : decode cX7_holders 39 = .ok (.goto (-35), 3) := by decide +kernel
theorem dX7_holders_42 : decode cX7_holders 42 = .ok (.iload_n 2, 1) := by decide +kernel
theorem dX7_holders_43 : decode cX7_holders 43 = .ok (.ireturn, 1) := by decide +kernel
theorem dX7_waits_0 : decode cX7_waits 0 = .ok (.aload_n 0, 1) := by decide +kernel
theorem dX7_waits_1 : decode cX7_waits 1 = .ok (.getfield 7, 3) := by decide +kernel
theorem dX7_waits_4 : decode cX7_waits 4 = .ok (.bipush 8, 2) := by decide +kernel
theorem dX7_waits_6 : decode cX7_waits 6 = .ok (.iaload, 1) := by decide +kernel
theorem dX7_waits_7 : decode cX7_waits 7 = .ok (.ifCond .eq 11, 3) := by decide +kernel
theorem dX7_waits_10 : decode cX7_waits 10 = .ok (.aload_n 0, 1) := by decide +kernel
theorem dX7_waits_11 : decode cX7_waits 11 = .ok (.iload_n 1, 1) := by decide +kernel
theorem dX7_waits_12 : decode cX7_waits 12 = .ok (.invokevirtual 90, 3) := by decide +kernel
theorem dX7_waits_15 : decode cX7_waits 15 = .ok (.ifCond .ne 5, 3) := by decide +kernel
theorem dX7_waits_18 : decode cX7_waits 18 = .ok (.iconst 0, 1) := by decide +kernel
theorem dX7_waits_19 : decode cX7_waits 19 = .ok (.ireturn, 1) := by decide +kernel
theorem dX7_waits_20 : decode cX7_waits 20 = .ok (.aload_n 0, 1) := by decide +kernel
theorem dX7_waits_21 : decode cX7_waits 21 = .ok (.iload_n 1, 1) := by decide +kernel
theorem dX7_waits_22 : decode cX7_waits 22 = .ok (.iload_n 2, 1) := by decide +kernel
theorem dX7_waits_23 : decode cX7_waits 23 = .ok (.invokevirtual 87, 3) := by decide +kernel
theorem dX7_waits_26 : decode cX7_waits 26 = .ok (.istore_n 3, 1) := by decide +kernel
theorem dX7_waits_27 : decode cX7_waits 27 = .ok (.iload_n 3, 1) := by decide +kernel
theorem dX7_waits_28 : decode cX7_waits 28 = .ok (.iconst (-1), 1) := by decide +kernel
theorem dX7_waits_29 : decode cX7_waits 29 = .ok (.if_icmp .eq 30, 3) := by decide +kernel
theorem dX7_waits_32 : decode cX7_waits 32 = .ok (.aload_n 0, 1) := by decide +kernel
theorem dX7_waits_33 : decode cX7_waits 33 = .ok (.getfield 7, 3) := by decide +kernel
theorem dX7_waits_36 : decode cX7_waits 36 = .ok (.sipush 484, 3) := by decide +kernel
theorem dX7_waits_39 : decode cX7_waits 39 = .ok (.iload_n 1, 1) := by decide +kernel
theorem dX7_waits_40 : decode cX7_waits 40 = .ok (.iadd, 1) := by decide +kernel
theorem dX7_waits_41 : decode cX7_waits 41 = .ok (.iaload, 1) := by decide +kernel
theorem dX7_waits_42 : decode cX7_waits 42 = .ok (.iconst (-1), 1) := by decide +kernel
theorem dX7_waits_43 : decode cX7_waits 43 = .ok (.if_icmp .eq 12, 3) := by decide +kernel
theorem dX7_waits_46 : decode cX7_waits 46 = .ok (.iload_n 3, 1) := by decide +kernel
theorem dX7_waits_47 : decode cX7_waits 47 = .ok (.aload_n 0, 1) := by decide +kernel
theorem dX7_waits_48 : decode cX7_waits 48 = .ok (.iload_n 1, 1) := by decide +kernel
theorem dX7_waits_49 : decode cX7_waits 49 = .ok (.invokevirtual 94, 3) := by decide +kernel
theorem dX7_waits_52 : decode cX7_waits 52 = .ok (.if_icmp .ge 7, 3) := by decide +kernel
theorem dX7_waits_55 : decode cX7_waits 55 = .ok (.iconst 1, 1) := by decide +kernel
theorem dX7_waits_56 : decode cX7_waits 56 = .ok (.goto 4, 3) := by decide +kernel
theorem dX7_waits_59 : decode cX7_waits 59 = .ok (.iconst 0, 1) := by decide +kernel
theorem dX7_waits_60 : decode cX7_waits 60 = .ok (.ireturn, 1) := by decide +kernel
theorem dX7_waitingMany_0 : decode cX7_waitingMany 0 = .ok (.iconst 0, 1) := by decide +kernel
theorem dX7_waitingMany_1 : decode cX7_waitingMany 1 = .ok (.istore_n 2, 1) := by decide +kernel
theorem dX7_waitingMany_2 : decode cX7_waitingMany 2 = .ok (.iconst 0, 1) := by decide +kernel
theorem dX7_waitingMany_3 : decode cX7_waitingMany 3 = .ok (.istore_n 3, 1) := by decide +kernel
theorem dX7_waitingMany_4 : decode cX7_waitingMany 4 = .ok (.iload_n 3, 1) := by decide +kernel
theorem dX7_waitingMany_5 : decode cX7_waitingMany 5 = .ok (.aload_n 0, 1) := by decide +kernel
theorem dX7_waitingMany_6 : decode cX7_waitingMany 6 = .ok (.getfield 7, 3) := by decide +kernel
theorem dX7_waitingMany_9 : decode cX7_waitingMany 9 = .ok (.iconst 1, 1) := by decide +kernel
theorem dX7_waitingMany_10 : decode cX7_waitingMany 10 = .ok (.iaload, 1) := by decide +kernel
theorem dX7_waitingMany_11 : decode cX7_waitingMany 11 = .ok (.if_icmp .ge 26, 3) := by decide +kernel
theorem dX7_waitingMany_14 : decode cX7_waitingMany 14 = .ok (.iload_n 2, 1) := by decide +kernel
theorem dX7_waitingMany_15 : decode cX7_waitingMany 15 = .ok (.aload_n 0, 1) := by decide +kernel
theorem dX7_waitingMany_16 : decode cX7_waitingMany 16 = .ok (.iload_n 3, 1) := by decide +kernel
theorem dX7_waitingMany_17 : decode cX7_waitingMany 17 = .ok (.iload_n 1, 1) := by decide +kernel
theorem dX7_waitingMany_18 : decode cX7_waitingMany 18 = .ok (.invokevirtual 98, 3) := by decide +kernel
theorem dX7_waitingMany_21 : decode cX7_waitingMany 21 = .ok (.ifCond .eq 7, 3) := by decide +kernel
theorem dX7_waitingMany_24 : decode cX7_waitingMany 24 = .ok (.iconst 1, 1) := by decide +kernel
theorem dX7_waitingMany_25 : decode cX7_waitingMany 25 = .ok (.goto 4, 3) := by decide +kernel
theorem dX7_waitingMany_28 : decode cX7_waitingMany 28 = .ok (.iconst 0, 1) := by decide +kernel
theorem dX7_waitingMany_29 : decode cX7_waitingMany 29 = .ok (.iadd, 1) := by decide +kernel
theorem dX7_waitingMany_30 : decode cX7_waitingMany 30 = .ok (.istore_n 2, 1) := by decide +kernel
theorem dX7_waitingMany_31 : decode cX7_waitingMany 31 = .ok (.iinc 3 1, 3) := by decide +kernel
theorem dX7_waitingMany_34 : decode cX7_waitingMany 34 = .ok (.goto (-30), 3) := by decide +kernel
theorem dX7_waitingMany_37 : decode cX7_waitingMany 37 = .ok (.iload_n 2, 1) := by decide +kernel
theorem dX7_waitingMany_38 : decode cX7_waitingMany 38 = .ok (.ireturn, 1) := by decide +kernel
theorem dX7_isOf_0 : decode cX7_isOf 0 = .ok (.iload_n 3, 1) := by decide +kernel
theorem dX7_isOf_1 : decode cX7_isOf 1 = .ok (.ifCond .eq 12, 3) := by decide +kernel
theorem dX7_isOf_4 : decode cX7_isOf 4 = .ok (.aload_n 0, 1) := by decide +kernel
theorem dX7_isOf_5 : decode cX7_isOf 5 = .ok (.iload_n 1, 1) := by decide +kernel
theorem dX7_isOf_6 : decode cX7_isOf 6 = .ok (.iload_n 2, 1) := by decide +kernel
theorem dX7_isOf_7 : decode cX7_isOf 7 = .ok (.invokevirtual 98, 3) := by decide +kernel
theorem dX7_isOf_10 : decode cX7_isOf 10 = .ok (.goto 22, 3) := by decide +kernel
theorem dX7_isOf_13 : decode cX7_isOf 13 = .ok (.aload_n 0, 1) := by decide +kernel
theorem dX7_isOf_14 : decode cX7_isOf 14 = .ok (.getfield 7, 3) := by decide +kernel
theorem dX7_isOf_17 : decode cX7_isOf 17 = .ok (.sipush 484, 3) := by decide +kernel
theorem dX7_isOf_20 : decode cX7_isOf 20 = .ok (.iload_n 1, 1) := by decide +kernel
theorem dX7_isOf_21 : decode cX7_isOf 21 = .ok (.iadd, 1) := by decide +kernel
theorem dX7_isOf_22 : decode cX7_isOf 22 = .ok (.iaload, 1) := by decide +kernel
theorem dX7_isOf_23 : decode cX7_isOf 23 = .ok (.iload_n 2, 1) := by decide +kernel
theorem dX7_isOf_24 : decode cX7_isOf 24 = .ok (.if_icmp .ne 7, 3) := by decide +kernel
theorem dX7_isOf_27 : decode cX7_isOf 27 = .ok (.iconst 1, 1) := by decide +kernel
theorem dX7_isOf_28 : decode cX7_isOf 28 = .ok (.goto 4, 3) := by decide +kernel
theorem dX7_isOf_31 : decode cX7_isOf 31 = .ok (.iconst 0, 1) := by decide +kernel
theorem dX7_isOf_32 : decode cX7_isOf 32 = .ok (.ireturn, 1) := by decide +kernel
theorem dX7_aheadOf_0 : decode cX7_aheadOf 0 = .ok (.iconst 0, 1) := by decide +kernel
theorem dX7_aheadOf_1 : decode cX7_aheadOf 1 = .ok (.istore 4, 2) := by decide +kernel
theorem dX7_aheadOf_3 : decode cX7_aheadOf 3 = .ok (.iconst 0, 1) := by decide +kernel
theorem dX7_aheadOf_4 : decode cX7_aheadOf 4 = .ok (.istore 5, 2) := by decide +kernel
theorem dX7_aheadOf_6 : decode cX7_aheadOf 6 = .ok (.iload 5, 2) := by decide +kernel
theorem dX7_aheadOf_8 : decode cX7_aheadOf 8 = .ok (.aload_n 0, 1) := by decide +kernel
theorem dX7_aheadOf_9 : decode cX7_aheadOf 9 = .ok (.getfield 7, 3) := by decide +kernel
theorem dX7_aheadOf_12 : decode cX7_aheadOf 12 = .ok (.iconst 1, 1) := by decide +kernel
theorem dX7_aheadOf_13 : decode cX7_aheadOf 13 = .ok (.iaload, 1) := by decide +kernel
theorem dX7_aheadOf_14 : decode cX7_aheadOf 14 = .ok (.if_icmp .ge 47, 3) := by decide +kernel
theorem dX7_aheadOf_17 : decode cX7_aheadOf 17 = .ok (.iload 4, 2) := by decide +kernel
theorem dX7_aheadOf_19 : decode cX7_aheadOf 19 = .ok (.iload 5, 2) := by decide +kernel
theorem dX7_aheadOf_21 : decode cX7_aheadOf 21 = .ok (.iload_n 1, 1) := by decide +kernel
theorem dX7_aheadOf_22 : decode cX7_aheadOf 22 = .ok (.if_icmp .eq 29, 3) := by decide +kernel
theorem dX7_aheadOf_25 : decode cX7_aheadOf 25 = .ok (.aload_n 0, 1) := by decide +kernel
theorem dX7_aheadOf_26 : decode cX7_aheadOf 26 = .ok (.iload 5, 2) := by decide +kernel
theorem dX7_aheadOf_28 : decode cX7_aheadOf 28 = .ok (.iload_n 2, 1) := by decide +kernel
theorem dX7_aheadOf_29 : decode cX7_aheadOf 29 = .ok (.iload_n 3, 1) := by decide +kernel
theorem dX7_aheadOf_30 : decode cX7_aheadOf 30 = .ok (.invokevirtual 101, 3) := by decide +kernel
theorem dX7_aheadOf_33 : decode cX7_aheadOf 33 = .ok (.ifCond .eq 18, 3) := by decide +kernel
theorem dX7_aheadOf_36 : decode cX7_aheadOf 36 = .ok (.aload_n 0, 1) := by decide +kernel
theorem dX7_aheadOf_37 : decode cX7_aheadOf 37 = .ok (.iload_n 2, 1) := by decide +kernel
theorem dX7_aheadOf_38 : decode cX7_aheadOf 38 = .ok (.iload 5, 2) := by decide +kernel
theorem dX7_aheadOf_40 : decode cX7_aheadOf 40 = .ok (.iload_n 1, 1) := by decide +kernel
theorem dX7_aheadOf_41 : decode cX7_aheadOf 41 = .ok (.invokevirtual 105, 3) := by decide +kernel
theorem dX7_aheadOf_44 : decode cX7_aheadOf 44 = .ok (.ifCond .eq 7, 3) := by decide +kernel
theorem dX7_aheadOf_47 : decode cX7_aheadOf 47 = .ok (.iconst 1, 1) := by decide +kernel
theorem dX7_aheadOf_48 : decode cX7_aheadOf 48 = .ok (.goto 4, 3) := by decide +kernel
theorem dX7_aheadOf_51 : decode cX7_aheadOf 51 = .ok (.iconst 0, 1) := by decide +kernel
theorem dX7_aheadOf_52 : decode cX7_aheadOf 52 = .ok (.iadd, 1) := by decide +kernel
theorem dX7_aheadOf_53 : decode cX7_aheadOf 53 = .ok (.istore 4, 2) := by decide +kernel
theorem dX7_aheadOf_55 : decode cX7_aheadOf 55 = .ok (.iinc 5 1, 3) := by decide +kernel
theorem dX7_aheadOf_58 : decode cX7_aheadOf 58 = .ok (.goto (-52), 3) := by decide +kernel
theorem dX7_aheadOf_61 : decode cX7_aheadOf 61 = .ok (.iload 4, 2) := by decide +kernel
theorem dX7_aheadOf_63 : decode cX7_aheadOf 63 = .ok (.ireturn, 1) := by decide +kernel
theorem dX7_standsAt_0 : decode cX7_standsAt 0 = .ok (.iconst 0, 1) := by decide +kernel
theorem dX7_standsAt_1 : decode cX7_standsAt 1 = .ok (.istore 4, 2) := by decide +kernel
theorem dX7_standsAt_3 : decode cX7_standsAt 3 = .ok (.iload 4, 2) := by decide +kernel
theorem dX7_standsAt_5 : decode cX7_standsAt 5 = .ok (.aload_n 0, 1) := by decide +kernel
theorem dX7_standsAt_6 : decode cX7_standsAt 6 = .ok (.getfield 7, 3) := by decide +kernel
theorem dX7_standsAt_9 : decode cX7_standsAt 9 = .ok (.iconst 1, 1) := by decide +kernel
theorem dX7_standsAt_10 : decode cX7_standsAt 10 = .ok (.iaload, 1) := by decide +kernel
theorem dX7_standsAt_11 : decode cX7_standsAt 11 = .ok (.if_icmp .ge 35, 3) := by decide +kernel
theorem dX7_standsAt_14 : decode cX7_standsAt 14 = .ok (.aload_n 0, 1) := by decide +kernel
theorem dX7_standsAt_15 : decode cX7_standsAt 15 = .ok (.iload 4, 2) := by decide +kernel
theorem dX7_standsAt_17 : decode cX7_standsAt 17 = .ok (.iload_n 1, 1) := by decide +kernel
theorem dX7_standsAt_18 : decode cX7_standsAt 18 = .ok (.iload_n 3, 1) := by decide +kernel
theorem dX7_standsAt_19 : decode cX7_standsAt 19 = .ok (.invokevirtual 101, 3) := by decide +kernel
theorem dX7_standsAt_22 : decode cX7_standsAt 22 = .ok (.ifCond .eq 18, 3) := by decide +kernel
theorem dX7_standsAt_25 : decode cX7_standsAt 25 = .ok (.aload_n 0, 1) := by decide +kernel
theorem dX7_standsAt_26 : decode cX7_standsAt 26 = .ok (.iload 4, 2) := by decide +kernel
theorem dX7_standsAt_28 : decode cX7_standsAt 28 = .ok (.iload_n 1, 1) := by decide +kernel
theorem dX7_standsAt_29 : decode cX7_standsAt 29 = .ok (.iload_n 3, 1) := by decide +kernel
theorem dX7_standsAt_30 : decode cX7_standsAt 30 = .ok (.invokevirtual 108, 3) := by decide +kernel
theorem dX7_standsAt_33 : decode cX7_standsAt 33 = .ok (.iload_n 2, 1) := by decide +kernel
theorem dX7_standsAt_34 : decode cX7_standsAt 34 = .ok (.if_icmp .ne 6, 3) := by decide +kernel
theorem dX7_standsAt_37 : decode cX7_standsAt 37 = .ok (.iload 4, 2) := by decide +kernel
theorem dX7_standsAt_39 : decode cX7_standsAt 39 = .ok (.ireturn, 1) := by decide +kernel
theorem dX7_standsAt_40 : decode cX7_standsAt 40 = .ok (.iinc 4 1, 3) := by decide +kernel
theorem dX7_standsAt_43 : decode cX7_standsAt 43 = .ok (.goto (-40), 3) := by decide +kernel
theorem dX7_standsAt_46 : decode cX7_standsAt 46 = .ok (.iconst (-1), 1) := by decide +kernel
theorem dX7_standsAt_47 : decode cX7_standsAt 47 = .ok (.ireturn, 1) := by decide +kernel
theorem dX7_puts_0 : decode cX7_puts 0 = .ok (.aload_n 0, 1) := by decide +kernel
theorem dX7_puts_1 : decode cX7_puts 1 = .ok (.getfield 7, 3) := by decide +kernel
theorem dX7_puts_4 : decode cX7_puts 4 = .ok (.sipush 484, 3) := by decide +kernel
theorem dX7_puts_7 : decode cX7_puts 7 = .ok (.iload_n 1, 1) := by decide +kernel
theorem dX7_puts_8 : decode cX7_puts 8 = .ok (.iadd, 1) := by decide +kernel
theorem dX7_puts_9 : decode cX7_puts 9 = .ok (.iload_n 2, 1) := by decide +kernel
theorem dX7_puts_10 : decode cX7_puts 10 = .ok (.iastore, 1) := by decide +kernel
theorem dX7_puts_11 : decode cX7_puts 11 = .ok (.aload_n 0, 1) := by decide +kernel
theorem dX7_puts_12 : decode cX7_puts 12 = .ok (.getfield 7, 3) := by decide +kernel
theorem dX7_puts_15 : decode cX7_puts 15 = .ok (.sipush 444, 3) := by decide +kernel
theorem dX7_puts_18 : decode cX7_puts 18 = .ok (.iload_n 1, 1) := by decide +kernel
theorem dX7_puts_19 : decode cX7_puts 19 = .ok (.iadd, 1) := by decide +kernel
theorem dX7_puts_20 : decode cX7_puts 20 = .ok (.iload_n 3, 1) := by decide +kernel
theorem dX7_puts_21 : decode cX7_puts 21 = .ok (.iastore, 1) := by decide +kernel
theorem dX7_puts_22 : decode cX7_puts 22 = .ok (.return_, 1) := by decide +kernel
theorem dX7_fillable_0 : decode cX7_fillable 0 = .ok (.iconst 0, 1) := by decide +kernel
theorem dX7_fillable_1 : decode cX7_fillable 1 = .ok (.istore_n 1, 1) := by decide +kernel
theorem dX7_fillable_2 : decode cX7_fillable 2 = .ok (.iload_n 1, 1) := by decide +kernel
theorem dX7_fillable_3 : decode cX7_fillable 3 = .ok (.aload_n 0, 1) := by decide +kernel
theorem dX7_fillable_4 : decode cX7_fillable 4 = .ok (.getfield 7, 3) := by decide +kernel
theorem dX7_fillable_7 : decode cX7_fillable 7 = .ok (.iconst 0, 1) := by decide +kernel
theorem dX7_fillable_8 : decode cX7_fillable 8 = .ok (.iaload, 1) := by decide +kernel
theorem dX7_fillable_9 : decode cX7_fillable 9 = .ok (.if_icmp .ge 36, 3) := by decide +kernel
theorem dX7_fillable_12 : decode cX7_fillable 12 = .ok (.aload_n 0, 1) := by decide +kernel
theorem dX7_fillable_13 : decode cX7_fillable 13 = .ok (.iload_n 1, 1) := by decide +kernel
theorem dX7_fillable_14 : decode cX7_fillable 14 = .ok (.invokevirtual 112, 3) := by decide +kernel
theorem dX7_fillable_17 : decode cX7_fillable 17 = .ok (.aload_n 0, 1) := by decide +kernel
theorem dX7_fillable_18 : decode cX7_fillable 18 = .ok (.getfield 7, 3) := by decide +kernel
theorem dX7_fillable_21 : decode cX7_fillable 21 = .ok (.bipush 20, 2) := by decide +kernel
theorem dX7_fillable_23 : decode cX7_fillable 23 = .ok (.iload_n 1, 1) := by decide +kernel
theorem dX7_fillable_24 : decode cX7_fillable 24 = .ok (.iadd, 1) := by decide +kernel
theorem dX7_fillable_25 : decode cX7_fillable 25 = .ok (.iaload, 1) := by decide +kernel
theorem dX7_fillable_26 : decode cX7_fillable 26 = .ok (.if_icmp .ge 13, 3) := by decide +kernel
theorem dX7_fillable_29 : decode cX7_fillable 29 = .ok (.aload_n 0, 1) := by decide +kernel
theorem dX7_fillable_30 : decode cX7_fillable 30 = .ok (.iload_n 1, 1) := by decide +kernel
theorem dX7_fillable_31 : decode cX7_fillable 31 = .ok (.invokevirtual 115, 3) := by decide +kernel
theorem dX7_fillable_34 : decode cX7_fillable 34 = .ok (.ifCond .le 5, 3) := by decide +kernel
theorem dX7_fillable_37 : decode cX7_fillable 37 = .ok (.iload_n 1, 1) := by decide +kernel
theorem dX7_fillable_38 : decode cX7_fillable 38 = .ok (.ireturn, 1) := by decide +kernel
theorem dX7_fillable_39 : decode cX7_fillable 39 = .ok (.iinc 1 1, 3) := by decide +kernel
theorem dX7_fillable_42 : decode cX7_fillable 42 = .ok (.goto (-40), 3) := by decide +kernel
theorem dX7_fillable_45 : decode cX7_fillable 45 = .ok (.iconst (-1), 1) := by decide +kernel
theorem dX7_fillable_46 : decode cX7_fillable 46 = .ok (.ireturn, 1) := by decide +kernel
theorem dX7_fills_0 : decode cX7_fills 0 = .ok (.aload_n 0, 1) := by decide +kernel
theorem dX7_fills_1 : decode cX7_fills 1 = .ok (.getfield 7, 3) := by decide +kernel
theorem dX7_fills_4 : decode cX7_fills 4 = .ok (.bipush 8, 2) := by decide +kernel
theorem dX7_fills_6 : decode cX7_fills 6 = .ok (.iaload, 1) := by decide +kernel
theorem dX7_fills_7 : decode cX7_fills 7 = .ok (.ifCond .ne 4, 3) := by decide +kernel
theorem dX7_fills_10 : decode cX7_fills 10 = .ok (.return_, 1) := by decide +kernel
theorem dX7_fills_11 : decode cX7_fills 11 = .ok (.aload_n 0, 1) := by decide +kernel
theorem dX7_fills_12 : decode cX7_fills 12 = .ok (.invokevirtual 118, 3) := by decide +kernel
theorem dX7_fills_15 : decode cX7_fills 15 = .ok (.istore_n 1, 1) := by decide +kernel
theorem dX7_fills_16 : decode cX7_fills 16 = .ok (.iload_n 1, 1) := by decide +kernel
theorem dX7_fills_17 : decode cX7_fills 17 = .ok (.iconst (-1), 1) := by decide +kernel
theorem dX7_fills_18 : decode cX7_fills 18 = .ok (.if_icmp .eq 35, 3) := by decide +kernel
theorem dX7_fills_21 : decode cX7_fills 21 = .ok (.aload_n 0, 1) := by decide +kernel
theorem dX7_fills_22 : decode cX7_fills 22 = .ok (.aload_n 0, 1) := by decide +kernel
theorem dX7_fills_23 : decode cX7_fills 23 = .ok (.iload_n 1, 1) := by decide +kernel
theorem dX7_fills_24 : decode cX7_fills 24 = .ok (.iconst 0, 1) := by decide +kernel
theorem dX7_fills_25 : decode cX7_fills 25 = .ok (.iconst 1, 1) := by decide +kernel
theorem dX7_fills_26 : decode cX7_fills 26 = .ok (.invokevirtual 122, 3) := by decide +kernel
theorem dX7_fills_29 : decode cX7_fills 29 = .ok (.iload_n 1, 1) := by decide +kernel
theorem dX7_fills_30 : decode cX7_fills 30 = .ok (.iconst 0, 1) := by decide +kernel
theorem dX7_fills_31 : decode cX7_fills 31 = .ok (.invokevirtual 125, 3) := by decide +kernel
theorem dX7_fills_34 : decode cX7_fills 34 = .ok (.aload_n 0, 1) := by decide +kernel
theorem dX7_fills_35 : decode cX7_fills 35 = .ok (.getfield 7, 3) := by decide +kernel
theorem dX7_fills_38 : decode cX7_fills 38 = .ok (.bipush 10, 2) := by decide +kernel
theorem dX7_fills_40 : decode cX7_fills 40 = .ok (.dup2, 1) := by decide +kernel
theorem dX7_fills_41 : decode cX7_fills 41 = .ok (.iaload, 1) := by decide +kernel
theorem dX7_fills_42 : decode cX7_fills 42 = .ok (.iconst 1, 1) := by decide +kernel
theorem dX7_fills_43 : decode cX7_fills 43 = .ok (.iadd, 1) := by decide +kernel
theorem dX7_fills_44 : decode cX7_fills 44 = .ok (.iastore, 1) := by decide +kernel
theorem dX7_fills_45 : decode cX7_fills 45 = .ok (.aload_n 0, 1) := by decide +kernel
theorem dX7_fills_46 : decode cX7_fills 46 = .ok (.invokevirtual 118, 3) := by decide +kernel
theorem dX7_fills_49 : decode cX7_fills 49 = .ok (.istore_n 1, 1) := by decide +kernel
theorem dX7_fills_50 : decode cX7_fills 50 = .ok (.goto (-34), 3) := by decide +kernel
theorem dX7_fills_53 : decode cX7_fills 53 = .ok (.return_, 1) := by decide +kernel
theorem dX7_tries_0 : decode cX7_tries 0 = .ok (.aload_n 0, 1) := by decide +kernel
theorem dX7_tries_1 : decode cX7_tries 1 = .ok (.iload_n 1, 1) := by decide +kernel
theorem dX7_tries_2 : decode cX7_tries 2 = .ok (.invokevirtual 90, 3) := by decide +kernel
theorem dX7_tries_5 : decode cX7_tries 5 = .ok (.ifCond .eq 40, 3) := by decide +kernel
theorem dX7_tries_8 : decode cX7_tries 8 = .ok (.aload_n 0, 1) := by decide +kernel
theorem dX7_tries_9 : decode cX7_tries 9 = .ok (.getfield 7, 3) := by decide +kernel
theorem dX7_tries_12 : decode cX7_tries 12 = .ok (.sipush 484, 3) := by decide +kernel
theorem dX7_tries_15 : decode cX7_tries 15 = .ok (.iload_n 1, 1) := by decide +kernel
theorem dX7_tries_16 : decode cX7_tries 16 = .ok (.iadd, 1) := by decide +kernel
theorem dX7_tries_17 : decode cX7_tries 17 = .ok (.iaload, 1) := by decide +kernel
theorem dX7_tries_18 : decode cX7_tries 18 = .ok (.iconst (-1), 1) := by decide +kernel
theorem dX7_tries_19 : decode cX7_tries 19 = .ok (.if_icmp .ne 26, 3) := by decide +kernel
theorem dX7_tries_22 : decode cX7_tries 22 = .ok (.aload_n 0, 1) := by decide +kernel
theorem dX7_tries_23 : decode cX7_tries 23 = .ok (.getfield 31, 3) := by decide +kernel
theorem dX7_tries_26 : decode cX7_tries 26 = .ok (.iload_n 1, 1) := by decide +kernel
theorem dX7_tries_27 : decode cX7_tries 27 = .ok (.iaload, 1) := by decide +kernel
theorem dX7_tries_28 : decode cX7_tries 28 = .ok (.aload_n 0, 1) := by decide +kernel
theorem dX7_tries_29 : decode cX7_tries 29 = .ok (.getfield 7, 3) := by decide +kernel
theorem dX7_tries_32 : decode cX7_tries 32 = .ok (.sipush 324, 3) := by decide +kernel
theorem dX7_tries_35 : decode cX7_tries 35 = .ok (.iload_n 1, 1) := by decide +kernel
theorem dX7_tries_36 : decode cX7_tries 36 = .ok (.iadd, 1) := by decide +kernel
theorem dX7_tries_37 : decode cX7_tries 37 = .ok (.iaload, 1) := by decide +kernel
theorem dX7_tries_38 : decode cX7_tries 38 = .ok (.if_icmp .ge 7, 3) := by decide +kernel
theorem dX7_tries_41 : decode cX7_tries 41 = .ok (.iconst 1, 1) := by decide +kernel
theorem dX7_tries_42 : decode cX7_tries 42 = .ok (.goto 4, 3) := by decide +kernel
theorem dX7_tries_45 : decode cX7_tries 45 = .ok (.iconst 0, 1) := by decide +kernel
theorem dX7_tries_46 : decode cX7_tries 46 = .ok (.ireturn, 1) := by decide +kernel
theorem dX7_keeps_0 : decode cX7_keeps 0 = .ok (.aload_n 0, 1) := by decide +kernel
theorem dX7_keeps_1 : decode cX7_keeps 1 = .ok (.iload_n 1, 1) := by decide +kernel
theorem dX7_keeps_2 : decode cX7_keeps 2 = .ok (.invokevirtual 112, 3) := by decide +kernel
theorem dX7_keeps_5 : decode cX7_keeps 5 = .ok (.aload_n 0, 1) := by decide +kernel
theorem dX7_keeps_6 : decode cX7_keeps 6 = .ok (.getfield 7, 3) := by decide +kernel
theorem dX7_keeps_9 : decode cX7_keeps 9 = .ok (.bipush 20, 2) := by decide +kernel
theorem dX7_keeps_11 : decode cX7_keeps 11 = .ok (.iload_n 1, 1) := by decide +kernel
theorem dX7_keeps_12 : decode cX7_keeps 12 = .ok (.iadd, 1) := by decide +kernel
theorem dX7_keeps_13 : decode cX7_keeps 13 = .ok (.iaload, 1) := by decide +kernel
theorem dX7_keeps_14 : decode cX7_keeps 14 = .ok (.if_icmp .le 34, 3) := by decide +kernel
theorem dX7_keeps_17 : decode cX7_keeps 17 = .ok (.aload_n 0, 1) := by decide +kernel
theorem dX7_keeps_18 : decode cX7_keeps 18 = .ok (.iload_n 1, 1) := by decide +kernel
theorem dX7_keeps_19 : decode cX7_keeps 19 = .ok (.invokevirtual 129, 3) := by decide +kernel
theorem dX7_keeps_22 : decode cX7_keeps 22 = .ok (.istore_n 2, 1) := by decide +kernel
theorem dX7_keeps_23 : decode cX7_keeps 23 = .ok (.aload_n 0, 1) := by decide +kernel
theorem dX7_keeps_24 : decode cX7_keeps 24 = .ok (.getfield 7, 3) := by decide +kernel
theorem dX7_keeps_27 : decode cX7_keeps 27 = .ok (.sipush 484, 3) := by decide +kernel
theorem dX7_keeps_30 : decode cX7_keeps 30 = .ok (.iload_n 2, 1) := by decide +kernel
theorem dX7_keeps_31 : decode cX7_keeps 31 = .ok (.iadd, 1) := by decide +kernel
theorem dX7_keeps_32 : decode cX7_keeps 32 = .ok (.iconst (-1), 1) := by decide +kernel
theorem dX7_keeps_33 : decode cX7_keeps 33 = .ok (.iastore, 1) := by decide +kernel
theorem dX7_keeps_34 : decode cX7_keeps 34 = .ok (.aload_n 0, 1) := by decide +kernel
theorem dX7_keeps_35 : decode cX7_keeps 35 = .ok (.getfield 7, 3) := by decide +kernel
theorem dX7_keeps_38 : decode cX7_keeps 38 = .ok (.sipush 524, 3) := by decide +kernel
theorem dX7_keeps_41 : decode cX7_keeps 41 = .ok (.iload_n 2, 1) := by decide +kernel
theorem dX7_keeps_42 : decode cX7_keeps 42 = .ok (.iadd, 1) := by decide +kernel
theorem dX7_keeps_43 : decode cX7_keeps 43 = .ok (.iconst 0, 1) := by decide +kernel
theorem dX7_keeps_44 : decode cX7_keeps 44 = .ok (.iastore, 1) := by decide +kernel
theorem dX7_keeps_45 : decode cX7_keeps 45 = .ok (.goto (-45), 3) := by decide +kernel
theorem dX7_keeps_48 : decode cX7_keeps 48 = .ok (.return_, 1) := by decide +kernel
theorem dX7_lastOf_0 : decode cX7_lastOf 0 = .ok (.iconst (-1), 1) := by decide +kernel
theorem dX7_lastOf_1 : decode cX7_lastOf 1 = .ok (.istore_n 2, 1) := by decide +kernel
theorem dX7_lastOf_2 : decode cX7_lastOf 2 = .ok (.iconst 0, 1) := by decide +kernel
theorem dX7_lastOf_3 : decode cX7_lastOf 3 = .ok (.istore_n 3, 1) := by decide +kernel
theorem dX7_lastOf_4 : decode cX7_lastOf 4 = .ok (.iload_n 3, 1) := by decide +kernel
theorem dX7_lastOf_5 : decode cX7_lastOf 5 = .ok (.aload_n 0, 1) := by decide +kernel
theorem dX7_lastOf_6 : decode cX7_lastOf 6 = .ok (.getfield 7, 3) := by decide +kernel
theorem dX7_lastOf_9 : decode cX7_lastOf 9 = .ok (.iconst 1, 1) := by decide +kernel
theorem dX7_lastOf_10 : decode cX7_lastOf 10 = .ok (.iaload, 1) := by decide +kernel
theorem dX7_lastOf_11 : decode cX7_lastOf 11 = .ok (.if_icmp .ge 40, 3) := by decide +kernel
theorem dX7_lastOf_14 : decode cX7_lastOf 14 = .ok (.aload_n 0, 1) := by decide +kernel
theorem dX7_lastOf_15 : decode cX7_lastOf 15 = .ok (.getfield 7, 3) := by decide +kernel
theorem dX7_lastOf_18 : decode cX7_lastOf 18 = .ok (.sipush 484, 3) := by decide +kernel
theorem dX7_lastOf_21 : decode cX7_lastOf 21 = .ok (.iload_n 3, 1) := by decide +kernel
theorem dX7_lastOf_22 : decode cX7_lastOf 22 = .ok (.iadd, 1) := by decide +kernel
theorem dX7_lastOf_23 : decode cX7_lastOf 23 = .ok (.iaload, 1) := by decide +kernel
theorem dX7_lastOf_24 : decode cX7_lastOf 24 = .ok (.iload_n 1, 1) := by decide +kernel
theorem dX7_lastOf_25 : decode cX7_lastOf 25 = .ok (.if_icmp .ne 20, 3) := by decide +kernel
theorem dX7_lastOf_28 : decode cX7_lastOf 28 = .ok (.iload_n 2, 1) := by decide +kernel
theorem dX7_lastOf_29 : decode cX7_lastOf 29 = .ok (.iconst (-1), 1) := by decide +kernel
theorem dX7_lastOf_30 : decode cX7_lastOf 30 = .ok (.if_icmp .eq 13, 3) := by decide +kernel
theorem dX7_lastOf_33 : decode cX7_lastOf 33 = .ok (.aload_n 0, 1) := by decide +kernel
theorem dX7_lastOf_34 : decode cX7_lastOf 34 = .ok (.iload_n 1, 1) := by decide +kernel
theorem dX7_lastOf_35 : decode cX7_lastOf 35 = .ok (.iload_n 2, 1) := by decide +kernel
theorem dX7_lastOf_36 : decode cX7_lastOf 36 = .ok (.iload_n 3, 1) := by decide +kernel
theorem dX7_lastOf_37 : decode cX7_lastOf 37 = .ok (.invokevirtual 105, 3) := by decide +kernel
theorem dX7_lastOf_40 : decode cX7_lastOf 40 = .ok (.ifCond .eq 5, 3) := by decide +kernel
theorem dX7_lastOf_43 : decode cX7_lastOf 43 = .ok (.iload_n 3, 1) := by decide +kernel
theorem dX7_lastOf_44 : decode cX7_lastOf 44 = .ok (.istore_n 2, 1) := by decide +kernel
theorem dX7_lastOf_45 : decode cX7_lastOf 45 = .ok (.iinc 3 1, 3) := by decide +kernel
theorem dX7_lastOf_48 : decode cX7_lastOf 48 = .ok (.goto (-44), 3) := by decide +kernel
theorem dX7_lastOf_51 : decode cX7_lastOf 51 = .ok (.iload_n 2, 1) := by decide +kernel
theorem dX7_lastOf_52 : decode cX7_lastOf 52 = .ok (.ireturn, 1) := by decide +kernel
theorem dX7_allocates_0 : decode cX7_allocates 0 = .ok (.aload_n 0, 1) := by decide +kernel
theorem dX7_allocates_1 : decode cX7_allocates 1 = .ok (.getfield 7, 3) := by decide +kernel
theorem dX7_allocates_4 : decode cX7_allocates 4 = .ok (.bipush 8, 2) := by decide +kernel
theorem dX7_allocates_6 : decode cX7_allocates 6 = .ok (.iconst 1, 1) := by decide +kernel
theorem dX7_allocates_7 : decode cX7_allocates 7 = .ok (.iastore, 1) := by decide +kernel
theorem dX7_allocates_8 : decode cX7_allocates 8 = .ok (.aload_n 0, 1) := by decide +kernel
theorem dX7_allocates_9 : decode cX7_allocates 9 = .ok (.getfield 7, 3) := by decide +kernel
theorem dX7_allocates_12 : decode cX7_allocates 12 = .ok (.bipush 9, 2) := by decide +kernel
theorem dX7_allocates_14 : decode cX7_allocates 14 = .ok (.iconst 0, 1) := by decide +kernel
theorem dX7_allocates_15 : decode cX7_allocates 15 = .ok (.iastore, 1) := by decide +kernel
theorem dX7_allocates_16 : decode cX7_allocates 16 = .ok (.aload_n 0, 1) := by decide +kernel
theorem dX7_allocates_17 : decode cX7_allocates 17 = .ok (.getfield 7, 3) := by decide +kernel
theorem dX7_allocates_20 : decode cX7_allocates 20 = .ok (.bipush 10, 2) := by decide +kernel
theorem dX7_allocates_22 : decode cX7_allocates 22 = .ok (.iconst 0, 1) := by decide +kernel
theorem dX7_allocates_23 : decode cX7_allocates 23 = .ok (.iastore, 1) := by decide +kernel
theorem dX7_allocates_24 : decode cX7_allocates 24 = .ok (.iconst 0, 1) := by decide +kernel
theorem dX7_allocates_25 : decode cX7_allocates 25 = .ok (.istore_n 1, 1) := by decide +kernel
theorem dX7_allocates_26 : decode cX7_allocates 26 = .ok (.iload_n 1, 1) := by decide +kernel
theorem dX7_allocates_27 : decode cX7_allocates 27 = .ok (.bipush 8, 2) := by decide +kernel
theorem dX7_allocates_29 : decode cX7_allocates 29 = .ok (.if_icmp .ge 19, 3) := by decide +kernel
theorem dX7_allocates_32 : decode cX7_allocates 32 = .ok (.aload_n 0, 1) := by decide +kernel
theorem dX7_allocates_33 : decode cX7_allocates 33 = .ok (.getfield 7, 3) := by decide +kernel
theorem dX7_allocates_36 : decode cX7_allocates 36 = .ok (.bipush 60, 2) := by decide +kernel
theorem dX7_allocates_38 : decode cX7_allocates 38 = .ok (.iload_n 1, 1) := by decide +kernel
theorem dX7_allocates_39 : decode cX7_allocates 39 = .ok (.iadd, 1) := by decide +kernel
theorem dX7_allocates_40 : decode cX7_allocates 40 = .ok (.iconst 0, 1) := by decide +kernel
theorem dX7_allocates_41 : decode cX7_allocates 41 = .ok (.iastore, 1) := by decide +kernel
theorem dX7_allocates_42 : decode cX7_allocates 42 = .ok (.iinc 1 1, 3) := by decide +kernel
theorem dX7_allocates_45 : decode cX7_allocates 45 = .ok (.goto (-19), 3) := by decide +kernel
theorem dX7_allocates_48 : decode cX7_allocates 48 = .ok (.iconst 0, 1) := by decide +kernel
theorem dX7_allocates_49 : decode cX7_allocates 49 = .ok (.istore_n 1, 1) := by decide +kernel
theorem dX7_allocates_50 : decode cX7_allocates 50 = .ok (.iload_n 1, 1) := by decide +kernel
theorem dX7_allocates_51 : decode cX7_allocates 51 = .ok (.bipush 40, 2) := by decide +kernel
theorem dX7_allocates_53 : decode cX7_allocates 53 = .ok (.if_icmp .ge 34, 3) := by decide +kernel
theorem dX7_allocates_56 : decode cX7_allocates 56 = .ok (.aload_n 0, 1) := by decide +kernel
theorem dX7_allocates_57 : decode cX7_allocates 57 = .ok (.iload_n 1, 1) := by decide +kernel
theorem dX7_allocates_58 : decode cX7_allocates 58 = .ok (.iconst (-1), 1) := by decide +kernel
theorem dX7_allocates_59 : decode cX7_allocates 59 = .ok (.iconst 0, 1) := by decide +kernel
theorem dX7_allocates_60 : decode cX7_allocates 60 = .ok (.invokevirtual 125, 3) := by decide +kernel
theorem dX7_allocates_63 : decode cX7_allocates 63 = .ok (.aload_n 0, 1) := by decide +kernel
theorem dX7_allocates_64 : decode cX7_allocates 64 = .ok (.getfield 7, 3) := by decide +kernel
theorem dX7_allocates_67 : decode cX7_allocates 67 = .ok (.sipush 524, 3) := by decide +kernel
theorem dX7_allocates_70 : decode cX7_allocates 70 = .ok (.iload_n 1, 1) := by decide +kernel
theorem dX7_allocates_71 : decode cX7_allocates 71 = .ok (.iadd, 1) := by decide +kernel
theorem dX7_allocates_72 : decode cX7_allocates 72 = .ok (.iconst 0, 1) := by decide +kernel
theorem dX7_allocates_73 : decode cX7_allocates 73 = .ok (.iastore, 1) := by decide +kernel
theorem dX7_allocates_74 : decode cX7_allocates 74 = .ok (.aload_n 0, 1) := by decide +kernel
theorem dX7_allocates_75 : decode cX7_allocates 75 = .ok (.getfield 31, 3) := by decide +kernel
theorem dX7_allocates_78 : decode cX7_allocates 78 = .ok (.iload_n 1, 1) := by decide +kernel
theorem dX7_allocates_79 : decode cX7_allocates 79 = .ok (.iconst 0, 1) := by decide +kernel
theorem dX7_allocates_80 : decode cX7_allocates 80 = .ok (.iastore, 1) := by decide +kernel
theorem dX7_allocates_81 : decode cX7_allocates 81 = .ok (.iinc 1 1, 3) := by decide +kernel
theorem dX7_allocates_84 : decode cX7_allocates 84 = .ok (.goto (-34), 3) := by decide +kernel
theorem dX7_allocates_87 : decode cX7_allocates 87 = .ok (.iconst 1, 1) := by decide +kernel
theorem dX7_allocates_88 : decode cX7_allocates 88 = .ok (.istore_n 1, 1) := by decide +kernel
theorem dX7_allocates_89 : decode cX7_allocates 89 = .ok (.iload_n 1, 1) := by decide +kernel
theorem dX7_allocates_90 : decode cX7_allocates 90 = .ok (.ifCond .eq 139, 3) := by decide +kernel
theorem dX7_allocates_93 : decode cX7_allocates 93 = .ok (.iconst 0, 1) := by decide +kernel
theorem dX7_allocates_94 : decode cX7_allocates 94 = .ok (.istore_n 1, 1) := by decide +kernel
theorem dX7_allocates_95 : decode cX7_allocates 95 = .ok (.iconst 0, 1) := by decide +kernel
theorem dX7_allocates_96 : decode cX7_allocates 96 = .ok (.istore_n 2, 1) := by decide +kernel
theorem dX7_allocates_97 : decode cX7_allocates 97 = .ok (.iload_n 2, 1) := by decide +kernel
theorem dX7_allocates_98 : decode cX7_allocates 98 = .ok (.aload_n 0, 1) := by decide +kernel
theorem dX7_allocates_99 : decode cX7_allocates 99 = .ok (.getfield 7, 3) := by decide +kernel
theorem dX7_allocates_102 : decode cX7_allocates 102 = .ok (.iconst 1, 1) := by decide +kernel
theorem dX7_allocates_103 : decode cX7_allocates 103 = .ok (.iaload, 1) := by decide +kernel
theorem dX7_allocates_104 : decode cX7_allocates 104 = .ok (.if_icmp .ge 80, 3) := by decide +kernel
theorem dX7_allocates_107 : decode cX7_allocates 107 = .ok (.aload_n 0, 1) := by decide +kernel
theorem dX7_allocates_108 : decode cX7_allocates 108 = .ok (.iload_n 2, 1) := by decide +kernel
theorem dX7_allocates_109 : decode cX7_allocates 109 = .ok (.invokevirtual 132, 3) := by decide +kernel
theorem dX7_allocates_112 : decode cX7_allocates 112 = .ok (.ifCond .ne 6, 3) := by decide +kernel
theorem dX7_allocates_115 : decode cX7_allocates 115 = .ok (.goto 63, 3) := by decide +kernel
theorem dX7_allocates_118 : decode cX7_allocates 118 = .ok (.iconst 1, 1) := by decide +kernel
theorem dX7_allocates_119 : decode cX7_allocates 119 = .ok (.istore_n 1, 1) := by decide +kernel
theorem dX7_allocates_120 : decode cX7_allocates 120 = .ok (.aload_n 0, 1) := by decide +kernel
theorem dX7_allocates_121 : decode cX7_allocates 121 = .ok (.getfield 7, 3) := by decide +kernel
theorem dX7_allocates_124 : decode cX7_allocates 124 = .ok (.sipush 484, 3) := by decide +kernel
theorem dX7_allocates_127 : decode cX7_allocates 127 = .ok (.iload_n 2, 1) := by decide +kernel
theorem dX7_allocates_128 : decode cX7_allocates 128 = .ok (.iadd, 1) := by decide +kernel
theorem dX7_allocates_129 : decode cX7_allocates 129 = .ok (.aload_n 0, 1) := by decide +kernel
theorem dX7_allocates_130 : decode cX7_allocates 130 = .ok (.getfield 7, 3) := by decide +kernel
theorem dX7_allocates_133 : decode cX7_allocates 133 = .ok (.sipush 564, 3) := by decide +kernel
theorem dX7_allocates_136 : decode cX7_allocates 136 = .ok (.iconst 4, 1) := by decide +kernel
theorem dX7_allocates_137 : decode cX7_allocates 137 = .ok (.iload_n 2, 1) := by decide +kernel
theorem dX7_allocates_138 : decode cX7_allocates 138 = .ok (.imul, 1) := by decide +kernel
theorem dX7_allocates_139 : decode cX7_allocates 139 = .ok (.iadd, 1) := by decide +kernel
theorem dX7_allocates_140 : decode cX7_allocates 140 = .ok (.aload_n 0, 1) := by decide +kernel
theorem dX7_allocates_141 : decode cX7_allocates 141 = .ok (.getfield 31, 3) := by decide +kernel
theorem dX7_allocates_144 : decode cX7_allocates 144 = .ok (.iload_n 2, 1) := by decide +kernel
theorem dX7_allocates_145 : decode cX7_allocates 145 = .ok (.iaload, 1) := by decide +kernel
theorem dX7_allocates_146 : decode cX7_allocates 146 = .ok (.iadd, 1) := by decide +kernel
theorem dX7_allocates_147 : decode cX7_allocates 147 = .ok (.iaload, 1) := by decide +kernel
theorem dX7_allocates_148 : decode cX7_allocates 148 = .ok (.iastore, 1) := by decide +kernel
theorem dX7_allocates_149 : decode cX7_allocates 149 = .ok (.aload_n 0, 1) := by decide +kernel
theorem dX7_allocates_150 : decode cX7_allocates 150 = .ok (.getfield 7, 3) := by decide +kernel
theorem dX7_allocates_153 : decode cX7_allocates 153 = .ok (.sipush 524, 3) := by decide +kernel
theorem dX7_allocates_156 : decode cX7_allocates 156 = .ok (.iload_n 2, 1) := by decide +kernel
theorem dX7_allocates_157 : decode cX7_allocates 157 = .ok (.iadd, 1) := by decide +kernel
theorem dX7_allocates_158 : decode cX7_allocates 158 = .ok (.aload_n 0, 1) := by decide +kernel
theorem dX7_allocates_159 : decode cX7_allocates 159 = .ok (.getfield 7, 3) := by decide +kernel
theorem dX7_allocates_162 : decode cX7_allocates 162 = .ok (.bipush 9, 2) := by decide +kernel
theorem dX7_allocates_164 : decode cX7_allocates 164 = .ok (.iaload, 1) := by decide +kernel
theorem dX7_allocates_165 : decode cX7_allocates 165 = .ok (.iconst 1, 1) := by decide +kernel
theorem dX7_allocates_166 : decode cX7_allocates 166 = .ok (.iadd, 1) := by decide +kernel
theorem dX7_allocates_167 : decode cX7_allocates 167 = .ok (.iastore, 1) := by decide +kernel
theorem dX7_allocates_168 : decode cX7_allocates 168 = .ok (.aload_n 0, 1) := by decide +kernel
theorem dX7_allocates_169 : decode cX7_allocates 169 = .ok (.getfield 31, 3) := by decide +kernel
theorem dX7_allocates_172 : decode cX7_allocates 172 = .ok (.iload_n 2, 1) := by decide +kernel
theorem dX7_allocates_173 : decode cX7_allocates 173 = .ok (.dup2, 1) := by decide +kernel
theorem dX7_allocates_174 : decode cX7_allocates 174 = .ok (.iaload, 1) := by decide +kernel
theorem dX7_allocates_175 : decode cX7_allocates 175 = .ok (.iconst 1, 1) := by decide +kernel
theorem dX7_allocates_176 : decode cX7_allocates 176 = .ok (.iadd, 1) := by decide +kernel
theorem dX7_allocates_177 : decode cX7_allocates 177 = .ok (.iastore, 1) := by decide +kernel
theorem dX7_allocates_178 : decode cX7_allocates 178 = .ok (.iinc 2 1, 3) := by decide +kernel
theorem dX7_allocates_181 : decode cX7_allocates 181 = .ok (.goto (-84), 3) := by decide +kernel
theorem dX7_allocates_184 : decode cX7_allocates 184 = .ok (.iconst 0, 1) := by decide +kernel
theorem dX7_allocates_185 : decode cX7_allocates 185 = .ok (.istore_n 2, 1) := by decide +kernel
theorem dX7_allocates_186 : decode cX7_allocates 186 = .ok (.iload_n 2, 1) := by decide +kernel
theorem dX7_allocates_187 : decode cX7_allocates 187 = .ok (.aload_n 0, 1) := by decide +kernel
theorem dX7_allocates_188 : decode cX7_allocates 188 = .ok (.getfield 7, 3) := by decide +kernel
theorem dX7_allocates_191 : decode cX7_allocates 191 = .ok (.iconst 0, 1) := by decide +kernel
theorem dX7_allocates_192 : decode cX7_allocates 192 = .ok (.iaload, 1) := by decide +kernel
theorem dX7_allocates_193 : decode cX7_allocates 193 = .ok (.if_icmp .ge 14, 3) := by decide +kernel
theorem dX7_allocates_196 : decode cX7_allocates 196 = .ok (.aload_n 0, 1) := by decide +kernel
theorem dX7_allocates_197 : decode cX7_allocates 197 = .ok (.iload_n 2, 1) := by decide +kernel
theorem dX7_allocates_198 : decode cX7_allocates 198 = .ok (.invokevirtual 135, 3) := by decide +kernel
theorem dX7_allocates_201 : decode cX7_allocates 201 = .ok (.iinc 2 1, 3) := by decide +kernel
theorem dX7_allocates_204 : decode cX7_allocates 204 = .ok (.goto (-18), 3) := by decide +kernel
theorem dX7_allocates_207 : decode cX7_allocates 207 = .ok (.aload_n 0, 1) := by decide +kernel
theorem dX7_allocates_208 : decode cX7_allocates 208 = .ok (.getfield 7, 3) := by decide +kernel
theorem dX7_allocates_211 : decode cX7_allocates 211 = .ok (.bipush 9, 2) := by decide +kernel
theorem dX7_allocates_213 : decode cX7_allocates 213 = .ok (.dup2, 1) := by decide +kernel
theorem dX7_allocates_214 : decode cX7_allocates 214 = .ok (.iaload, 1) := by decide +kernel
theorem dX7_allocates_215 : decode cX7_allocates 215 = .ok (.iload_n 1, 1) := by decide +kernel
theorem dX7_allocates_216 : decode cX7_allocates 216 = .ok (.ifCond .eq 7, 3) := by decide +kernel
theorem dX7_allocates_219 : decode cX7_allocates 219 = .ok (.iconst 1, 1) := by decide +kernel
theorem dX7_allocates_220 : decode cX7_allocates 220 = .ok (.goto 4, 3) := by decide +kernel
theorem dX7_allocates_223 : decode cX7_allocates 223 = .ok (.iconst 0, 1) := by decide +kernel
theorem dX7_allocates_224 : decode cX7_allocates 224 = .ok (.iadd, 1) := by decide +kernel
theorem dX7_allocates_225 : decode cX7_allocates 225 = .ok (.iastore, 1) := by decide +kernel
theorem dX7_allocates_226 : decode cX7_allocates 226 = .ok (.goto (-137), 3) := by decide +kernel
theorem dX7_allocates_229 : decode cX7_allocates 229 = .ok (.aload_n 0, 1) := by decide +kernel
theorem dX7_allocates_230 : decode cX7_allocates 230 = .ok (.getfield 7, 3) := by decide +kernel
theorem dX7_allocates_233 : decode cX7_allocates 233 = .ok (.bipush 9, 2) := by decide +kernel
theorem dX7_allocates_235 : decode cX7_allocates 235 = .ok (.iaload, 1) := by decide +kernel
theorem dX7_allocates_236 : decode cX7_allocates 236 = .ok (.ireturn, 1) := by decide +kernel
theorem dX7_appendWord_0 : decode cX7_appendWord 0 = .ok (.bipush 24, 2) := by decide +kernel
theorem dX7_appendWord_2 : decode cX7_appendWord 2 = .ok (.istore_n 2, 1) := by decide +kernel
theorem dX7_appendWord_3 : decode cX7_appendWord 3 = .ok (.iload_n 2, 1) := by decide +kernel
theorem dX7_appendWord_4 : decode cX7_appendWord 4 = .ok (.ifCond .lt 35, 3) := by decide +kernel
theorem dX7_appendWord_7 : decode cX7_appendWord 7 = .ok (.aload_n 0, 1) := by decide +kernel
theorem dX7_appendWord_8 : decode cX7_appendWord 8 = .ok (.getfield 34, 3) := by decide +kernel
theorem dX7_appendWord_11 : decode cX7_appendWord 11 = .ok (.aload_n 0, 1) := by decide +kernel
theorem dX7_appendWord_12 : decode cX7_appendWord 12 = .ok (.getfield 139, 3) := by decide +kernel
theorem dX7_appendWord_15 : decode cX7_appendWord 15 = .ok (.iload_n 1, 1) := by decide +kernel
theorem dX7_appendWord_16 : decode cX7_appendWord 16 = .ok (.iload_n 2, 1) := by decide +kernel
theorem dX7_appendWord_17 : decode cX7_appendWord 17 = .ok (.ishr, 1) := by decide +kernel
theorem dX7_appendWord_18 : decode cX7_appendWord 18 = .ok (.sipush 255, 3) := by decide +kernel
theorem dX7_appendWord_21 : decode cX7_appendWord 21 = .ok (.iand, 1) := by decide +kernel
theorem dX7_appendWord_22 : decode cX7_appendWord 22 = .ok (.iastore, 1) := by decide +kernel
theorem dX7_appendWord_23 : decode cX7_appendWord 23 = .ok (.aload_n 0, 1) := by decide +kernel
theorem dX7_appendWord_24 : decode cX7_appendWord 24 = .ok (.dup, 1) := by decide +kernel
theorem dX7_appendWord_25 : decode cX7_appendWord 25 = .ok (.getfield 139, 3) := by decide +kernel
theorem dX7_appendWord_28 : decode cX7_appendWord 28 = .ok (.iconst 1, 1) := by decide +kernel
theorem dX7_appendWord_29 : decode cX7_appendWord 29 = .ok (.iadd, 1) := by decide +kernel
theorem dX7_appendWord_30 : decode cX7_appendWord 30 = .ok (.putfield 139, 3) := by decide +kernel
theorem dX7_appendWord_33 : decode cX7_appendWord 33 = .ok (.iinc 2 (-8), 3) := by decide +kernel
theorem dX7_appendWord_36 : decode cX7_appendWord 36 = .ok (.goto (-33), 3) := by decide +kernel
theorem dX7_appendWord_39 : decode cX7_appendWord 39 = .ok (.return_, 1) := by decide +kernel
theorem dX7_appendInput_0 : decode cX7_appendInput 0 = .ok (.aload_n 0, 1) := by decide +kernel
theorem dX7_appendInput_1 : decode cX7_appendInput 1 = .ok (.iconst 0, 1) := by decide +kernel
theorem dX7_appendInput_2 : decode cX7_appendInput 2 = .ok (.putfield 56, 3) := by decide +kernel
theorem dX7_appendInput_5 : decode cX7_appendInput 5 = .ok (.aload_n 0, 1) := by decide +kernel
theorem dX7_appendInput_6 : decode cX7_appendInput 6 = .ok (.getfield 139, 3) := by decide +kernel
theorem dX7_appendInput_9 : decode cX7_appendInput 9 = .ok (.bipush 20, 2) := by decide +kernel
theorem dX7_appendInput_11 : decode cX7_appendInput 11 = .ok (.iadd, 1) := by decide +kernel
theorem dX7_appendInput_12 : decode cX7_appendInput 12 = .ok (.sipush 900, 3) := by decide +kernel
theorem dX7_appendInput_15 : decode cX7_appendInput 15 = .ok (.if_icmp .le 5, 3) := by decide +kernel
theorem dX7_appendInput_18 : decode cX7_appendInput 18 = .ok (.iconst (-1), 1) := by decide +kernel
theorem dX7_appendInput_19 : decode cX7_appendInput 19 = .ok (.ireturn, 1) := by decide +kernel
theorem dX7_appendInput_20 : decode cX7_appendInput 20 = .ok (.aload_n 0, 1) := by decide +kernel
theorem dX7_appendInput_21 : decode cX7_appendInput 21 = .ok (.iload_n 1, 1) := by decide +kernel
theorem dX7_appendInput_22 : decode cX7_appendInput 22 = .ok (.invokevirtual 142, 3) := by decide +kernel
theorem dX7_appendInput_25 : decode cX7_appendInput 25 = .ok (.aload_n 0, 1) := by decide +kernel
theorem dX7_appendInput_26 : decode cX7_appendInput 26 = .ok (.iload_n 2, 1) := by decide +kernel
theorem dX7_appendInput_27 : decode cX7_appendInput 27 = .ok (.invokevirtual 142, 3) := by decide +kernel
theorem dX7_appendInput_30 : decode cX7_appendInput 30 = .ok (.aload_n 0, 1) := by decide +kernel
theorem dX7_appendInput_31 : decode cX7_appendInput 31 = .ok (.iload_n 3, 1) := by decide +kernel
theorem dX7_appendInput_32 : decode cX7_appendInput 32 = .ok (.invokevirtual 142, 3) := by decide +kernel
theorem dX7_appendInput_35 : decode cX7_appendInput 35 = .ok (.aload_n 0, 1) := by decide +kernel
theorem dX7_appendInput_36 : decode cX7_appendInput 36 = .ok (.iload 4, 2) := by decide +kernel
theorem dX7_appendInput_38 : decode cX7_appendInput 38 = .ok (.invokevirtual 142, 3) := by decide +kernel
theorem dX7_appendInput_41 : decode cX7_appendInput 41 = .ok (.aload_n 0, 1) := by decide +kernel
theorem dX7_appendInput_42 : decode cX7_appendInput 42 = .ok (.iload 5, 2) := by decide +kernel
theorem dX7_appendInput_44 : decode cX7_appendInput 44 = .ok (.invokevirtual 142, 3) := by decide +kernel
theorem dX7_appendInput_47 : decode cX7_appendInput 47 = .ok (.aload_n 0, 1) := by decide +kernel
theorem dX7_appendInput_48 : decode cX7_appendInput 48 = .ok (.getfield 139, 3) := by decide +kernel
theorem dX7_appendInput_51 : decode cX7_appendInput 51 = .ok (.ireturn, 1) := by decide +kernel
theorem dX7_truncateInput_0 : decode cX7_truncateInput 0 = .ok (.aload_n 0, 1) := by decide +kernel
theorem dX7_truncateInput_1 : decode cX7_truncateInput 1 = .ok (.iconst 0, 1) := by decide +kernel
theorem dX7_truncateInput_2 : decode cX7_truncateInput 2 = .ok (.putfield 56, 3) := by decide +kernel
theorem dX7_truncateInput_5 : decode cX7_truncateInput 5 = .ok (.iload_n 1, 1) := by decide +kernel
theorem dX7_truncateInput_6 : decode cX7_truncateInput 6 = .ok (.iconst 0, 1) := by decide +kernel
theorem dX7_truncateInput_7 : decode cX7_truncateInput 7 = .ok (.aload_n 0, 1) := by decide +kernel
theorem dX7_truncateInput_8 : decode cX7_truncateInput 8 = .ok (.getfield 139, 3) := by decide +kernel
theorem dX7_truncateInput_11 : decode cX7_truncateInput 11 = .ok (.invokestatic 66, 3) := by decide +kernel
theorem dX7_truncateInput_14 : decode cX7_truncateInput 14 = .ok (.ifCond .ne 5, 3) := by decide +kernel
theorem dX7_truncateInput_17 : decode cX7_truncateInput 17 = .ok (.iconst 0, 1) := by decide +kernel
theorem dX7_truncateInput_18 : decode cX7_truncateInput 18 = .ok (.ireturn, 1) := by decide +kernel
theorem dX7_truncateInput_19 : decode cX7_truncateInput 19 = .ok (.aload_n 0, 1) := by decide +kernel
theorem dX7_truncateInput_20 : decode cX7_truncateInput 20 = .ok (.iload_n 1, 1) := by decide +kernel
theorem dX7_truncateInput_21 : decode cX7_truncateInput 21 = .ok (.putfield 139, 3) := by decide +kernel
theorem dX7_truncateInput_24 : decode cX7_truncateInput 24 = .ok (.iconst 1, 1) := by decide +kernel
theorem dX7_truncateInput_25 : decode cX7_truncateInput 25 = .ok (.ireturn, 1) := by decide +kernel
theorem dX7_byteAt_0 : decode cX7_byteAt 0 = .ok (.iload_n 1, 1) := by decide +kernel
theorem dX7_byteAt_1 : decode cX7_byteAt 1 = .ok (.aload_n 0, 1) := by decide +kernel
theorem dX7_byteAt_2 : decode cX7_byteAt 2 = .ok (.getfield 139, 3) := by decide +kernel
theorem dX7_byteAt_5 : decode cX7_byteAt 5 = .ok (.if_icmp .ge 12, 3) := by decide +kernel
theorem dX7_byteAt_8 : decode cX7_byteAt 8 = .ok (.aload_n 0, 1) := by decide +kernel
theorem dX7_byteAt_9 : decode cX7_byteAt 9 = .ok (.getfield 34, 3) := by decide +kernel
theorem dX7_byteAt_12 : decode cX7_byteAt 12 = .ok (.iload_n 1, 1) := by decide +kernel
theorem dX7_byteAt_13 : decode cX7_byteAt 13 = .ok (.iaload, 1) := by decide +kernel
theorem dX7_byteAt_14 : decode cX7_byteAt 14 = .ok (.goto 4, 3) := by decide +kernel
theorem dX7_byteAt_17 : decode cX7_byteAt 17 = .ok (.iconst (-1), 1) := by decide +kernel
theorem dX7_byteAt_18 : decode cX7_byteAt 18 = .ok (.ireturn, 1) := by decide +kernel
theorem dX7_advanceToken_0 : decode cX7_advanceToken 0 = .ok (.aload_n 0, 1) := by decide +kernel
theorem dX7_advanceToken_1 : decode cX7_advanceToken 1 = .ok (.aload_n 0, 1) := by decide +kernel
theorem dX7_advanceToken_2 : decode cX7_advanceToken 2 = .ok (.getfield 145, 3) := by decide +kernel
theorem dX7_advanceToken_5 : decode cX7_advanceToken 5 = .ok (.invokevirtual 148, 3) := by decide +kernel
theorem dX7_advanceToken_8 : decode cX7_advanceToken 8 = .ok (.bipush 32, 2) := by decide +kernel
theorem dX7_advanceToken_10 : decode cX7_advanceToken 10 = .ok (.if_icmp .eq 16, 3) := by decide +kernel
theorem dX7_advanceToken_13 : decode cX7_advanceToken 13 = .ok (.aload_n 0, 1) := by decide +kernel
theorem dX7_advanceToken_14 : decode cX7_advanceToken 14 = .ok (.aload_n 0, 1) := by decide +kernel
theorem dX7_advanceToken_15 : decode cX7_advanceToken 15 = .ok (.getfield 145, 3) := by decide +kernel
theorem dX7_advanceToken_18 : decode cX7_advanceToken 18 = .ok (.invokevirtual 148, 3) := by decide +kernel
theorem dX7_advanceToken_21 : decode cX7_advanceToken 21 = .ok (.bipush 10, 2) := by decide +kernel
theorem dX7_advanceToken_23 : decode cX7_advanceToken 23 = .ok (.if_icmp .ne 16, 3) := by decide +kernel
theorem dX7_advanceToken_26 : decode cX7_advanceToken 26 = .ok (.aload_n 0, 1) := by decide +kernel
theorem dX7_advanceToken_27 : decode cX7_advanceToken 27 = .ok (.dup, 1) := by decide +kernel
theorem dX7_advanceToken_28 : decode cX7_advanceToken 28 = .ok (.getfield 145, 3) := by decide +kernel
theorem dX7_advanceToken_31 : decode cX7_advanceToken 31 = .ok (.iconst 1, 1) := by decide +kernel
theorem dX7_advanceToken_32 : decode cX7_advanceToken 32 = .ok (.iadd, 1) := by decide +kernel
theorem dX7_advanceToken_33 : decode cX7_advanceToken 33 = .ok (.putfield 145, 3) := by decide +kernel
theorem dX7_advanceToken_36 : decode cX7_advanceToken 36 = .ok (.goto (-36), 3) := by decide +kernel
theorem dX7_advanceToken_39 : decode cX7_advanceToken 39 = .ok (.aload_n 0, 1) := by decide +kernel
theorem dX7_advanceToken_40 : decode cX7_advanceToken 40 = .ok (.aload_n 0, 1) := by decide +kernel
theorem dX7_advanceToken_41 : decode cX7_advanceToken 41 = .ok (.getfield 145, 3) := by decide +kernel
theorem dX7_advanceToken_44 : decode cX7_advanceToken 44 = .ok (.putfield 151, 3) := by decide +kernel
theorem dX7_advanceToken_47 : decode cX7_advanceToken 47 = .ok (.aload_n 0, 1) := by decide +kernel
theorem dX7_advanceToken_48 : decode cX7_advanceToken 48 = .ok (.aload_n 0, 1) := by decide +kernel
theorem dX7_advanceToken_49 : decode cX7_advanceToken 49 = .ok (.getfield 145, 3) := by decide +kernel
theorem dX7_advanceToken_52 : decode cX7_advanceToken 52 = .ok (.invokevirtual 148, 3) := by decide +kernel
theorem dX7_advanceToken_55 : decode cX7_advanceToken 55 = .ok (.istore_n 1, 1) := by decide +kernel
theorem dX7_advanceToken_56 : decode cX7_advanceToken 56 = .ok (.aload_n 0, 1) := by decide +kernel
theorem dX7_advanceToken_57 : decode cX7_advanceToken 57 = .ok (.iconst 0, 1) := by decide +kernel
theorem dX7_advanceToken_58 : decode cX7_advanceToken 58 = .ok (.putfield 154, 3) := by decide +kernel
theorem dX7_advanceToken_61 : decode cX7_advanceToken 61 = .ok (.iload_n 1, 1) := by decide +kernel
theorem dX7_advanceToken_62 : decode cX7_advanceToken 62 = .ok (.iconst (-1), 1) := by decide +kernel
theorem dX7_advanceToken_63 : decode cX7_advanceToken 63 = .ok (.if_icmp .ne 11, 3) := by decide +kernel
theorem dX7_advanceToken_66 : decode cX7_advanceToken 66 = .ok (.aload_n 0, 1) := by decide +kernel
theorem dX7_advanceToken_67 : decode cX7_advanceToken 67 = .ok (.iconst 0, 1) := by decide +kernel
theorem dX7_advanceToken_68 : decode cX7_advanceToken 68 = .ok (.putfield 157, 3) := by decide +kernel
theorem dX7_advanceToken_71 : decode cX7_advanceToken 71 = .ok (.goto 158, 3) := by decide +kernel
theorem dX7_advanceToken_74 : decode cX7_advanceToken 74 = .ok (.iload_n 1, 1) := by decide +kernel
theorem dX7_advanceToken_75 : decode cX7_advanceToken 75 = .ok (.bipush 97, 2) := by decide +kernel
theorem dX7_advanceToken_77 : decode cX7_advanceToken 77 = .ok (.bipush 122, 2) := by decide +kernel
theorem dX7_advanceToken_79 : decode cX7_advanceToken 79 = .ok (.invokestatic 66, 3) := by decide +kernel
theorem dX7_advanceToken_82 : decode cX7_advanceToken 82 = .ok (.ifCond .eq 39, 3) := by decide +kernel
theorem dX7_advanceToken_85 : decode cX7_advanceToken 85 = .ok (.aload_n 0, 1) := by decide +kernel
theorem dX7_advanceToken_86 : decode cX7_advanceToken 86 = .ok (.iconst 1, 1) := by decide +kernel
theorem dX7_advanceToken_87 : decode cX7_advanceToken 87 = .ok (.putfield 157, 3) := by decide +kernel
theorem dX7_advanceToken_90 : decode cX7_advanceToken 90 = .ok (.aload_n 0, 1) := by decide +kernel
theorem dX7_advanceToken_91 : decode cX7_advanceToken 91 = .ok (.aload_n 0, 1) := by decide +kernel
theorem dX7_advanceToken_92 : decode cX7_advanceToken 92 = .ok (.getfield 145, 3) := by decide +kernel
theorem dX7_advanceToken_95 : decode cX7_advanceToken 95 = .ok (.invokevirtual 148, 3) := by decide +kernel
theorem dX7_advanceToken_98 : decode cX7_advanceToken 98 = .ok (.bipush 97, 2) := by decide +kernel
theorem dX7_advanceToken_100 : decode cX7_advanceToken 100 = .ok (.bipush 122, 2) := by decide +kernel
theorem dX7_advanceToken_102 : decode cX7_advanceToken 102 = .ok (.invokestatic 66, 3) := by decide +kernel
theorem dX7_advanceToken_105 : decode cX7_advanceToken 105 = .ok (.ifCond .eq 124, 3) := by decide +kernel
theorem dX7_advanceToken_108 : decode cX7_advanceToken 108 = .ok (.aload_n 0, 1) := by decide +kernel
theorem dX7_advanceToken_109 : decode cX7_advanceToken 109 = .ok (.dup, 1) := by decide +kernel
theorem dX7_advanceToken_110 : decode cX7_advanceToken 110 = .ok (.getfield 145, 3) := by decide +kernel
theorem dX7_advanceToken_113 : decode cX7_advanceToken 113 = .ok (.iconst 1, 1) := by decide +kernel
theorem dX7_advanceToken_114 : decode cX7_advanceToken 114 = .ok (.iadd, 1) := by decide +kernel
theorem dX7_advanceToken_115 : decode cX7_advanceToken 115 = .ok (.putfield 145, 3) := by decide +kernel
theorem dX7_advanceToken_118 : decode cX7_advanceToken 118 = .ok (.goto (-28), 3) := by decide +kernel
theorem dX7_advanceToken_121 : decode cX7_advanceToken 121 = .ok (.iload_n 1, 1) := by decide +kernel
theorem dX7_advanceToken_122 : decode cX7_advanceToken 122 = .ok (.bipush 48, 2) := by decide +kernel
theorem dX7_advanceToken_124 : decode cX7_advanceToken 124 = .ok (.bipush 57, 2) := by decide +kernel
theorem dX7_advanceToken_126 : decode cX7_advanceToken 126 = .ok (.invokestatic 66, 3) := by decide +kernel
theorem dX7_advanceToken_129 : decode cX7_advanceToken 129 = .ok (.ifCond .eq 75, 3) := by decide +kernel
theorem dX7_advanceToken_132 : decode cX7_advanceToken 132 = .ok (.aload_n 0, 1) := by decide +kernel
theorem dX7_advanceToken_133 : decode cX7_advanceToken 133 = .ok (.iconst 2, 1) := by decide +kernel
theorem dX7_advanceToken_134 : decode cX7_advanceToken 134 = .ok (.putfield 157, 3) := by decide +kernel
theorem dX7_advanceToken_137 : decode cX7_advanceToken 137 = .ok (.aload_n 0, 1) := by decide +kernel
theorem dX7_advanceToken_138 : decode cX7_advanceToken 138 = .ok (.aload_n 0, 1) := by decide +kernel
theorem dX7_advanceToken_139 : decode cX7_advanceToken 139 = .ok (.getfield 145, 3) := by decide +kernel
theorem dX7_advanceToken_142 : decode cX7_advanceToken 142 = .ok (.invokevirtual 148, 3) := by decide +kernel
theorem dX7_advanceToken_145 : decode cX7_advanceToken 145 = .ok (.bipush 48, 2) := by decide +kernel
theorem dX7_advanceToken_147 : decode cX7_advanceToken 147 = .ok (.bipush 57, 2) := by decide +kernel
theorem dX7_advanceToken_149 : decode cX7_advanceToken 149 = .ok (.invokestatic 66, 3) := by decide +kernel
theorem dX7_advanceToken_152 : decode cX7_advanceToken 152 = .ok (.ifCond .eq 77, 3) := by decide +kernel
theorem dX7_advanceToken_155 : decode cX7_advanceToken 155 = .ok (.aload_n 0, 1) := by decide +kernel
theorem dX7_advanceToken_156 : decode cX7_advanceToken 156 = .ok (.getfield 145, 3) := by decide +kernel
theorem dX7_advanceToken_159 : decode cX7_advanceToken 159 = .ok (.aload_n 0, 1) := by decide +kernel
theorem dX7_advanceToken_160 : decode cX7_advanceToken 160 = .ok (.getfield 151, 3) := by decide +kernel
theorem dX7_advanceToken_163 : decode cX7_advanceToken 163 = .ok (.isub, 1) := by decide +kernel
theorem dX7_advanceToken_164 : decode cX7_advanceToken 164 = .ok (.iconst 3, 1) := by decide +kernel
theorem dX7_advanceToken_165 : decode cX7_advanceToken 165 = .ok (.if_icmp .ge 26, 3) := by decide +kernel
theorem dX7_advanceToken_168 : decode cX7_advanceToken 168 = .ok (.aload_n 0, 1) := by decide +kernel
theorem dX7_advanceToken_169 : decode cX7_advanceToken 169 = .ok (.bipush 10, 2) := by decide +kernel
theorem dX7_advanceToken_171 : decode cX7_advanceToken 171 = .ok (.aload_n 0, 1) := by decide +kernel
theorem dX7_advanceToken_172 : decode cX7_advanceToken 172 = .ok (.getfield 154, 3) := by decide +kernel
theorem dX7_advanceToken_175 : decode cX7_advanceToken 175 = .ok (.imul, 1) := by decide +kernel
theorem dX7_advanceToken_176 : decode cX7_advanceToken 176 = .ok (.aload_n 0, 1) := by decide +kernel
theorem dX7_advanceToken_177 : decode cX7_advanceToken 177 = .ok (.aload_n 0, 1) := by decide +kernel
theorem dX7_advanceToken_178 : decode cX7_advanceToken 178 = .ok (.getfield 145, 3) := by decide +kernel
theorem dX7_advanceToken_181 : decode cX7_advanceToken 181 = .ok (.invokevirtual 148, 3) := by decide +kernel
theorem dX7_advanceToken_184 : decode cX7_advanceToken 184 = .ok (.iadd, 1) := by decide +kernel
theorem dX7_advanceToken_185 : decode cX7_advanceToken 185 = .ok (.bipush 48, 2) := by decide +kernel
theorem dX7_advanceToken_187 : decode cX7_advanceToken 187 = .ok (.isub, 1) := by decide +kernel
theorem dX7_advanceToken_188 : decode cX7_advanceToken 188 = .ok (.putfield 154, 3) := by decide +kernel
theorem dX7_advanceToken_191 : decode cX7_advanceToken 191 = .ok (.aload_n 0, 1) := by decide +kernel
theorem dX7_advanceToken_192 : decode cX7_advanceToken 192 = .ok (.dup, 1) := by decide +kernel
theorem dX7_advanceToken_193 : decode cX7_advanceToken 193 = .ok (.getfield 145, 3) := by decide +kernel
theorem dX7_advanceToken_196 : decode cX7_advanceToken 196 = .ok (.iconst 1, 1) := by decide +kernel
theorem dX7_advanceToken_197 : decode cX7_advanceToken 197 = .ok (.iadd, 1) := by decide +kernel
theorem dX7_advanceToken_198 : decode cX7_advanceToken 198 = .ok (.putfield 145, 3) := by decide +kernel
theorem dX7_advanceToken_201 : decode cX7_advanceToken 201 = .ok (.goto (-64), 3) := by decide +kernel
theorem dX7_advanceToken_204 : decode cX7_advanceToken 204 = .ok (.aload_n 0, 1) := by decide +kernel
theorem dX7_advanceToken_205 : decode cX7_advanceToken 205 = .ok (.iload_n 1, 1) := by decide +kernel
theorem dX7_advanceToken_206 : decode cX7_advanceToken 206 = .ok (.bipush 59, 2) := by decide +kernel
theorem dX7_advanceToken_208 : decode cX7_advanceToken 208 = .ok (.if_icmp .ne 7, 3) := by decide +kernel
theorem dX7_advanceToken_211 : decode cX7_advanceToken 211 = .ok (.iconst 3, 1) := by decide +kernel
theorem dX7_advanceToken_212 : decode cX7_advanceToken 212 = .ok (.goto 4, 3) := by decide +kernel
theorem dX7_advanceToken_215 : decode cX7_advanceToken 215 = .ok (.iconst 4, 1) := by decide +kernel
theorem dX7_advanceToken_216 : decode cX7_advanceToken 216 = .ok (.putfield 157, 3) := by decide +kernel
theorem dX7_advanceToken_219 : decode cX7_advanceToken 219 = .ok (.aload_n 0, 1) := by decide +kernel
theorem dX7_advanceToken_220 : decode cX7_advanceToken 220 = .ok (.dup, 1) := by decide +kernel
theorem dX7_advanceToken_221 : decode cX7_advanceToken 221 = .ok (.getfield 145, 3) := by decide +kernel
theorem dX7_advanceToken_224 : decode cX7_advanceToken 224 = .ok (.iconst 1, 1) := by decide +kernel
theorem dX7_advanceToken_225 : decode cX7_advanceToken 225 = .ok (.iadd, 1) := by decide +kernel
theorem dX7_advanceToken_226 : decode cX7_advanceToken 226 = .ok (.putfield 145, 3) := by decide +kernel
theorem dX7_advanceToken_229 : decode cX7_advanceToken 229 = .ok (.return_, 1) := by decide +kernel
theorem dX7_tokenLength_0 : decode cX7_tokenLength 0 = .ok (.aload_n 0, 1) := by decide +kernel
theorem dX7_tokenLength_1 : decode cX7_tokenLength 1 = .ok (.getfield 145, 3) := by decide +kernel
theorem dX7_tokenLength_4 : decode cX7_tokenLength 4 = .ok (.aload_n 0, 1) := by decide +kernel
theorem dX7_tokenLength_5 : decode cX7_tokenLength 5 = .ok (.getfield 151, 3) := by decide +kernel
theorem dX7_tokenLength_8 : decode cX7_tokenLength 8 = .ok (.isub, 1) := by decide +kernel
theorem dX7_tokenLength_9 : decode cX7_tokenLength 9 = .ok (.ireturn, 1) := by decide +kernel
theorem dX7_failsAt_0 : decode cX7_failsAt 0 = .ok (.aload_n 0, 1) := by decide +kernel
theorem dX7_failsAt_1 : decode cX7_failsAt 1 = .ok (.getfield 160, 3) := by decide +kernel
theorem dX7_failsAt_4 : decode cX7_failsAt 4 = .ok (.ifCond .ne 16, 3) := by decide +kernel
theorem dX7_failsAt_7 : decode cX7_failsAt 7 = .ok (.aload_n 0, 1) := by decide +kernel
theorem dX7_failsAt_8 : decode cX7_failsAt 8 = .ok (.iload_n 1, 1) := by decide +kernel
theorem dX7_failsAt_9 : decode cX7_failsAt 9 = .ok (.putfield 160, 3) := by decide +kernel
theorem dX7_failsAt_12 : decode cX7_failsAt 12 = .ok (.aload_n 0, 1) := by decide +kernel
theorem dX7_failsAt_13 : decode cX7_failsAt 13 = .ok (.aload_n 0, 1) := by decide +kernel
theorem dX7_failsAt_14 : decode cX7_failsAt 14 = .ok (.getfield 151, 3) := by decide +kernel
theorem dX7_failsAt_17 : decode cX7_failsAt 17 = .ok (.putfield 163, 3) := by decide +kernel
theorem dX7_failsAt_20 : decode cX7_failsAt 20 = .ok (.iconst 0, 1) := by decide +kernel
theorem dX7_failsAt_21 : decode cX7_failsAt 21 = .ok (.ireturn, 1) := by decide +kernel
theorem dX7_isWord_0 : decode cX7_isWord 0 = .ok (.aload_n 0, 1) := by decide +kernel
theorem dX7_isWord_1 : decode cX7_isWord 1 = .ok (.getfield 157, 3) := by decide +kernel
theorem dX7_isWord_4 : decode cX7_isWord 4 = .ok (.iconst 1, 1) := by decide +kernel
theorem dX7_isWord_5 : decode cX7_isWord 5 = .ok (.if_icmp .ne 14, 3) := by decide +kernel
theorem dX7_isWord_8 : decode cX7_isWord 8 = .ok (.aload_n 0, 1) := by decide +kernel
theorem dX7_isWord_9 : decode cX7_isWord 9 = .ok (.invokevirtual 166, 3) := by decide +kernel
theorem dX7_isWord_12 : decode cX7_isWord 12 = .ok (.aload_n 1, 1) := by decide +kernel
theorem dX7_isWord_13 : decode cX7_isWord 13 = .ok (.invokevirtual 169, 3) := by decide +kernel
theorem dX7_isWord_16 : decode cX7_isWord 16 = .ok (.if_icmp .eq 5, 3) := by decide +kernel
theorem dX7_isWord_19 : decode cX7_isWord 19 = .ok (.iconst 0, 1) := by decide +kernel
theorem dX7_isWord_20 : decode cX7_isWord 20 = .ok (.ireturn, 1) := by decide +kernel
theorem dX7_isWord_21 : decode cX7_isWord 21 = .ok (.iconst 0, 1) := by decide +kernel
theorem dX7_isWord_22 : decode cX7_isWord 22 = .ok (.istore_n 2, 1) := by decide +kernel
theorem dX7_isWord_23 : decode cX7_isWord 23 = .ok (.iload_n 2, 1) := by decide +kernel
theorem dX7_isWord_24 : decode cX7_isWord 24 = .ok (.aload_n 1, 1) := by decide +kernel
theorem dX7_isWord_25 : decode cX7_isWord 25 = .ok (.invokevirtual 169, 3) := by decide +kernel
theorem dX7_isWord_28 : decode cX7_isWord 28 = .ok (.if_icmp .ge 30, 3) := by decide +kernel
theorem dX7_isWord_31 : decode cX7_isWord 31 = .ok (.aload_n 0, 1) := by decide +kernel
theorem dX7_isWord_32 : decode cX7_isWord 32 = .ok (.getfield 34, 3) := by decide +kernel
theorem dX7_isWord_35 : decode cX7_isWord 35 = .ok (.aload_n 0, 1) := by decide +kernel
theorem dX7_isWord_36 : decode cX7_isWord 36 = .ok (.getfield 151, 3) := by decide +kernel
theorem dX7_isWord_39 : decode cX7_isWord 39 = .ok (.iload_n 2, 1) := by decide +kernel
theorem dX7_isWord_40 : decode cX7_isWord 40 = .ok (.iadd, 1) := by decide +kernel
theorem dX7_isWord_41 : decode cX7_isWord 41 = .ok (.iaload, 1) := by decide +kernel
theorem dX7_isWord_42 : decode cX7_isWord 42 = .ok (.aload_n 1, 1) := by decide +kernel
theorem dX7_isWord_43 : decode cX7_isWord 43 = .ok (.iload_n 2, 1) := by decide +kernel
theorem dX7_isWord_44 : decode cX7_isWord 44 = .ok (.invokevirtual 174, 3) := by decide +kernel
theorem dX7_isWord_47 : decode cX7_isWord 47 = .ok (.if_icmp .eq 5, 3) := by decide +kernel
theorem dX7_isWord_50 : decode cX7_isWord 50 = .ok (.iconst 0, 1) := by decide +kernel
theorem dX7_isWord_51 : decode cX7_isWord 51 = .ok (.ireturn, 1) := by decide +kernel
theorem dX7_isWord_52 : decode cX7_isWord 52 = .ok (.iinc 2 1, 3) := by decide +kernel
theorem dX7_isWord_55 : decode cX7_isWord 55 = .ok (.goto (-32), 3) := by decide +kernel
theorem dX7_isWord_58 : decode cX7_isWord 58 = .ok (.iconst 1, 1) := by decide +kernel
theorem dX7_isWord_59 : decode cX7_isWord 59 = .ok (.ireturn, 1) := by decide +kernel
theorem dX7_takesInto_0 : decode cX7_takesInto 0 = .ok (.aload_n 0, 1) := by decide +kernel
theorem dX7_takesInto_1 : decode cX7_takesInto 1 = .ok (.getfield 157, 3) := by decide +kernel
theorem dX7_takesInto_4 : decode cX7_takesInto 4 = .ok (.iconst 2, 1) := by decide +kernel
theorem dX7_takesInto_5 : decode cX7_takesInto 5 = .ok (.if_icmp .ne 11, 3) := by decide +kernel
theorem dX7_takesInto_8 : decode cX7_takesInto 8 = .ok (.aload_n 0, 1) := by decide +kernel
theorem dX7_takesInto_9 : decode cX7_takesInto 9 = .ok (.invokevirtual 166, 3) := by decide +kernel
theorem dX7_takesInto_12 : decode cX7_takesInto 12 = .ok (.iconst 3, 1) := by decide +kernel
theorem dX7_takesInto_13 : decode cX7_takesInto 13 = .ok (.if_icmp .le 9, 3) := by decide +kernel
theorem dX7_takesInto_16 : decode cX7_takesInto 16 = .ok (.aload_n 0, 1) := by decide +kernel
theorem dX7_takesInto_17 : decode cX7_takesInto 17 = .ok (.iconst 1, 1) := by decide +kernel
theorem dX7_takesInto_18 : decode cX7_takesInto 18 = .ok (.invokevirtual 178, 3) := by decide +kernel
theorem dX7_takesInto_21 : decode cX7_takesInto 21 = .ok (.ireturn, 1) := by decide +kernel
theorem dX7_takesInto_22 : decode cX7_takesInto 22 = .ok (.aload_n 0, 1) := by decide +kernel
theorem dX7_takesInto_23 : decode cX7_takesInto 23 = .ok (.getfield 154, 3) := by decide +kernel
theorem dX7_takesInto_26 : decode cX7_takesInto 26 = .ok (.iload_n 2, 1) := by decide +kernel
theorem dX7_takesInto_27 : decode cX7_takesInto 27 = .ok (.iload_n 3, 1) := by decide +kernel
theorem dX7_takesInto_28 : decode cX7_takesInto 28 = .ok (.invokestatic 66, 3) := by decide +kernel
theorem dX7_takesInto_31 : decode cX7_takesInto 31 = .ok (.ifCond .ne 9, 3) := by decide +kernel
theorem dX7_takesInto_34 : decode cX7_takesInto 34 = .ok (.aload_n 0, 1) := by decide +kernel
theorem dX7_takesInto_35 : decode cX7_takesInto 35 = .ok (.iconst 2, 1) := by decide +kernel
theorem dX7_takesInto_36 : decode cX7_takesInto 36 = .ok (.invokevirtual 178, 3) := by decide +kernel
theorem dX7_takesInto_39 : decode cX7_takesInto 39 = .ok (.ireturn, 1) := by decide +kernel
theorem dX7_takesInto_40 : decode cX7_takesInto 40 = .ok (.aload_n 0, 1) := by decide +kernel
theorem dX7_takesInto_41 : decode cX7_takesInto 41 = .ok (.getfield 7, 3) := by decide +kernel
theorem dX7_takesInto_44 : decode cX7_takesInto 44 = .ok (.iload_n 1, 1) := by decide +kernel
theorem dX7_takesInto_45 : decode cX7_takesInto 45 = .ok (.aload_n 0, 1) := by decide +kernel
theorem dX7_takesInto_46 : decode cX7_takesInto 46 = .ok (.getfield 154, 3) := by decide +kernel
theorem dX7_takesInto_49 : decode cX7_takesInto 49 = .ok (.iastore, 1) := by decide +kernel
theorem dX7_takesInto_50 : decode cX7_takesInto 50 = .ok (.aload_n 0, 1) := by decide +kernel
theorem dX7_takesInto_51 : decode cX7_takesInto 51 = .ok (.invokevirtual 181, 3) := by decide +kernel
theorem dX7_takesInto_54 : decode cX7_takesInto 54 = .ok (.iconst 1, 1) := by decide +kernel
theorem dX7_takesInto_55 : decode cX7_takesInto 55 = .ok (.ireturn, 1) := by decide +kernel
theorem dX7_starts_0 : decode cX7_starts 0 = .ok (.iload_n 1, 1) := by decide +kernel
theorem dX7_starts_1 : decode cX7_starts 1 = .ok (.ifCond .ne 9, 3) := by decide +kernel
theorem dX7_starts_4 : decode cX7_starts 4 = .ok (.aload_n 0, 1) := by decide +kernel
theorem dX7_starts_5 : decode cX7_starts 5 = .ok (.iconst 4, 1) := by decide +kernel
theorem dX7_starts_6 : decode cX7_starts 6 = .ok (.invokevirtual 178, 3) := by decide +kernel
theorem dX7_starts_9 : decode cX7_starts 9 = .ok (.ireturn, 1) := by decide +kernel
theorem dX7_starts_10 : decode cX7_starts 10 = .ok (.aload_n 0, 1) := by decide +kernel
theorem dX7_starts_11 : decode cX7_starts 11 = .ok (.invokevirtual 181, 3) := by decide +kernel
theorem dX7_starts_14 : decode cX7_starts 14 = .ok (.iconst 1, 1) := by decide +kernel
theorem dX7_starts_15 : decode cX7_starts 15 = .ok (.ireturn, 1) := by decide +kernel
theorem dX7_startsOnce_0 : decode cX7_startsOnce 0 = .ok (.aload_n 0, 1) := by decide +kernel
theorem dX7_startsOnce_1 : decode cX7_startsOnce 1 = .ok (.getfield 184, 3) := by decide +kernel
theorem dX7_startsOnce_4 : decode cX7_startsOnce 4 = .ok (.iload_n 1, 1) := by decide +kernel
theorem dX7_startsOnce_5 : decode cX7_startsOnce 5 = .ok (.iand, 1) := by decide +kernel
theorem dX7_startsOnce_6 : decode cX7_startsOnce 6 = .ok (.ifCond .ne 7, 3) := by decide +kernel
theorem dX7_startsOnce_9 : decode cX7_startsOnce 9 = .ok (.iconst 1, 1) := by decide +kernel
theorem dX7_startsOnce_10 : decode cX7_startsOnce 10 = .ok (.goto 4, 3) := by decide +kernel
theorem dX7_startsOnce_13 : decode cX7_startsOnce 13 = .ok (.iconst 0, 1) := by decide +kernel
theorem dX7_startsOnce_14 : decode cX7_startsOnce 14 = .ok (.istore_n 2, 1) := by decide +kernel
theorem dX7_startsOnce_15 : decode cX7_startsOnce 15 = .ok (.aload_n 0, 1) := by decide +kernel
theorem dX7_startsOnce_16 : decode cX7_startsOnce 16 = .ok (.dup, 1) := by decide +kernel
theorem dX7_startsOnce_17 : decode cX7_startsOnce 17 = .ok (.getfield 184, 3) := by decide +kernel
theorem dX7_startsOnce_20 : decode cX7_startsOnce 20 = .ok (.iload_n 1, 1) := by decide +kernel
theorem dX7_startsOnce_21 : decode cX7_startsOnce 21 = .ok (.ior, 1) := by decide +kernel
theorem dX7_startsOnce_22 : decode cX7_startsOnce 22 = .ok (.putfield 184, 3) := by decide +kernel
theorem dX7_startsOnce_25 : decode cX7_startsOnce 25 = .ok (.aload_n 0, 1) := by decide +kernel
theorem dX7_startsOnce_26 : decode cX7_startsOnce 26 = .ok (.iload_n 2, 1) := by decide +kernel
theorem dX7_startsOnce_27 : decode cX7_startsOnce 27 = .ok (.invokevirtual 187, 3) := by decide +kernel
theorem dX7_startsOnce_30 : decode cX7_startsOnce 30 = .ok (.ireturn, 1) := by decide +kernel
theorem dX7_letterHere_0 : decode cX7_letterHere 0 = .ok (.iload_n 1, 1) := by decide +kernel
theorem dX7_letterHere_1 : decode cX7_letterHere 1 = .ok (.aload_n 0, 1) := by decide +kernel
theorem dX7_letterHere_2 : decode cX7_letterHere 2 = .ok (.invokevirtual 166, 3) := by decide +kernel
theorem dX7_letterHere_5 : decode cX7_letterHere 5 = .ok (.if_icmp .ge 17, 3) := by decide +kernel
theorem dX7_letterHere_8 : decode cX7_letterHere 8 = .ok (.aload_n 0, 1) := by decide +kernel
theorem dX7_letterHere_9 : decode cX7_letterHere 9 = .ok (.getfield 34, 3) := by decide +kernel
theorem dX7_letterHere_12 : decode cX7_letterHere 12 = .ok (.aload_n 0, 1) := by decide +kernel
theorem dX7_letterHere_13 : decode cX7_letterHere 13 = .ok (.getfield 151, 3) := by decide +kernel
theorem dX7_letterHere_16 : decode cX7_letterHere 16 = .ok (.iload_n 1, 1) := by decide +kernel
theorem dX7_letterHere_17 : decode cX7_letterHere 17 = .ok (.iadd, 1) := by decide +kernel
theorem dX7_letterHere_18 : decode cX7_letterHere 18 = .ok (.iaload, 1) := by decide +kernel
theorem dX7_letterHere_19 : decode cX7_letterHere 19 = .ok (.goto 4, 3) := by decide +kernel
theorem dX7_letterHere_22 : decode cX7_letterHere 22 = .ok (.iconst 0, 1) := by decide +kernel
theorem dX7_letterHere_23 : decode cX7_letterHere 23 = .ok (.ireturn, 1) := by decide +kernel
theorem dX7_isName_0 : decode cX7_isName 0 = .ok (.aload_n 0, 1) := by decide +kernel
theorem dX7_isName_1 : decode cX7_isName 1 = .ok (.ldc 191, 2) := by decide +kernel
theorem dX7_isName_3 : decode cX7_isName 3 = .ok (.invokevirtual 193, 3) := by decide +kernel
theorem dX7_isName_6 : decode cX7_isName 6 = .ok (.ifCond .ne 93, 3) := by decide +kernel
theorem dX7_isName_9 : decode cX7_isName 9 = .ok (.aload_n 0, 1) := by decide +kernel
theorem dX7_isName_10 : decode cX7_isName 10 = .ok (.ldc 197, 2) := by decide +kernel
theorem dX7_isName_12 : decode cX7_isName 12 = .ok (.invokevirtual 193, 3) := by decide +kernel
theorem dX7_isName_15 : decode cX7_isName 15 = .ok (.ifCond .ne 84, 3) := by decide +kernel
theorem dX7_isName_18 : decode cX7_isName 18 = .ok (.aload_n 0, 1) := by decide +kernel
theorem dX7_isName_19 : decode cX7_isName 19 = .ok (.ldc 199, 2) := by decide +kernel
theorem dX7_isName_21 : decode cX7_isName 21 = .ok (.invokevirtual 193, 3) := by decide +kernel
theorem dX7_isName_24 : decode cX7_isName 24 = .ok (.ifCond .ne 75, 3) := by decide +kernel
theorem dX7_isName_27 : decode cX7_isName 27 = .ok (.aload_n 0, 1) := by decide +kernel
theorem dX7_isName_28 : decode cX7_isName 28 = .ok (.ldc 201, 2) := by decide +kernel
theorem dX7_isName_30 : decode cX7_isName 30 = .ok (.invokevirtual 193, 3) := by decide +kernel
theorem dX7_isName_33 : decode cX7_isName 33 = .ok (.ifCond .ne 66, 3) := by decide +kernel
theorem dX7_isName_36 : decode cX7_isName 36 = .ok (.aload_n 0, 1) := by decide +kernel
theorem dX7_isName_37 : decode cX7_isName 37 = .ok (.ldc 203, 2) := by decide +kernel
theorem dX7_isName_39 : decode cX7_isName 39 = .ok (.invokevirtual 193, 3) := by decide +kernel
theorem dX7_isName_42 : decode cX7_isName 42 = .ok (.ifCond .ne 57, 3) := by decide +kernel
theorem dX7_isName_45 : decode cX7_isName 45 = .ok (.aload_n 0, 1) := by decide +kernel
theorem dX7_isName_46 : decode cX7_isName 46 = .ok (.ldc 205, 2) := by decide +kernel
theorem dX7_isName_48 : decode cX7_isName 48 = .ok (.invokevirtual 193, 3) := by decide +kernel
theorem dX7_isName_51 : decode cX7_isName 51 = .ok (.ifCond .ne 48, 3) := by decide +kernel
theorem dX7_isName_54 : decode cX7_isName 54 = .ok (.aload_n 0, 1) := by decide +kernel
theorem dX7_isName_55 : decode cX7_isName 55 = .ok (.ldc 207, 2) := by decide +kernel
theorem dX7_isName_57 : decode cX7_isName 57 = .ok (.invokevirtual 193, 3) := by decide +kernel
theorem dX7_isName_60 : decode cX7_isName 60 = .ok (.ifCond .ne 39, 3) := by decide +kernel
theorem dX7_isName_63 : decode cX7_isName 63 = .ok (.aload_n 0, 1) := by decide +kernel
theorem dX7_isName_64 : decode cX7_isName 64 = .ok (.ldc 209, 2) := by decide +kernel
theorem dX7_isName_66 : decode cX7_isName 66 = .ok (.invokevirtual 193, 3) := by decide +kernel
theorem dX7_isName_69 : decode cX7_isName 69 = .ok (.ifCond .ne 30, 3) := by decide +kernel
theorem dX7_isName_72 : decode cX7_isName 72 = .ok (.aload_n 0, 1) := by decide +kernel
theorem dX7_isName_73 : decode cX7_isName 73 = .ok (.ldc 211, 2) := by decide +kernel
theorem dX7_isName_75 : decode cX7_isName 75 = .ok (.invokevirtual 193, 3) := by decide +kernel
theorem dX7_isName_78 : decode cX7_isName 78 = .ok (.ifCond .ne 21, 3) := by decide +kernel
theorem dX7_isName_81 : decode cX7_isName 81 = .ok (.aload_n 0, 1) := by decide +kernel
theorem dX7_isName_82 : decode cX7_isName 82 = .ok (.ldc 213, 2) := by decide +kernel
theorem dX7_isName_84 : decode cX7_isName 84 = .ok (.invokevirtual 193, 3) := by decide +kernel
theorem dX7_isName_87 : decode cX7_isName 87 = .ok (.ifCond .ne 12, 3) := by decide +kernel
theorem dX7_isName_90 : decode cX7_isName 90 = .ok (.aload_n 0, 1) := by decide +kernel
theorem dX7_isName_91 : decode cX7_isName 91 = .ok (.ldc 215, 2) := by decide +kernel
theorem dX7_isName_93 : decode cX7_isName 93 = .ok (.invokevirtual 193, 3) := by decide +kernel
theorem dX7_isName_96 : decode cX7_isName 96 = .ok (.ifCond .eq 7, 3) := by decide +kernel
theorem dX7_isName_99 : decode cX7_isName 99 = .ok (.iconst 1, 1) := by decide +kernel
theorem dX7_isName_100 : decode cX7_isName 100 = .ok (.goto 4, 3) := by decide +kernel
theorem dX7_isName_103 : decode cX7_isName 103 = .ok (.iconst 0, 1) := by decide +kernel
theorem dX7_isName_104 : decode cX7_isName 104 = .ok (.istore_n 1, 1) := by decide +kernel
theorem dX7_isName_105 : decode cX7_isName 105 = .ok (.aload_n 0, 1) := by decide +kernel
theorem dX7_isName_106 : decode cX7_isName 106 = .ok (.getfield 157, 3) := by decide +kernel
theorem dX7_isName_109 : decode cX7_isName 109 = .ok (.iconst 1, 1) := by decide +kernel
theorem dX7_isName_110 : decode cX7_isName 110 = .ok (.if_icmp .ne 20, 3) := by decide +kernel
theorem dX7_isName_113 : decode cX7_isName 113 = .ok (.aload_n 0, 1) := by decide +kernel
theorem dX7_isName_114 : decode cX7_isName 114 = .ok (.invokevirtual 166, 3) := by decide +kernel
theorem dX7_isName_117 : decode cX7_isName 117 = .ok (.bipush 6, 2) := by decide +kernel
theorem dX7_isName_119 : decode cX7_isName 119 = .ok (.if_icmp .gt 11, 3) := by decide +kernel
theorem dX7_isName_122 : decode cX7_isName 122 = .ok (.iload_n 1, 1) := by decide +kernel
theorem dX7_isName_123 : decode cX7_isName 123 = .ok (.ifCond .ne 7, 3) := by decide +kernel
theorem dX7_isName_126 : decode cX7_isName 126 = .ok (.iconst 1, 1) := by decide +kernel
theorem dX7_isName_127 : decode cX7_isName 127 = .ok (.goto 4, 3) := by decide +kernel
theorem dX7_isName_130 : decode cX7_isName 130 = .ok (.iconst 0, 1) := by decide +kernel
theorem dX7_isName_131 : decode cX7_isName 131 = .ok (.ireturn, 1) := by decide +kernel
theorem dX7_find_0 : decode cX7_find 0 = .ok (.iconst 0, 1) := by decide +kernel
theorem dX7_find_1 : decode cX7_find 1 = .ok (.istore_n 1, 1) := by decide +kernel
theorem dX7_find_2 : decode cX7_find 2 = .ok (.iload_n 1, 1) := by decide +kernel
theorem dX7_find_3 : decode cX7_find 3 = .ok (.aload_n 0, 1) := by decide +kernel
theorem dX7_find_4 : decode cX7_find 4 = .ok (.getfield 7, 3) := by decide +kernel
theorem dX7_find_7 : decode cX7_find 7 = .ok (.iconst 0, 1) := by decide +kernel
theorem dX7_find_8 : decode cX7_find 8 = .ok (.iaload, 1) := by decide +kernel
theorem dX7_find_9 : decode cX7_find 9 = .ok (.if_icmp .ge 60, 3) := by decide +kernel
theorem dX7_find_12 : decode cX7_find 12 = .ok (.iconst 1, 1) := by decide +kernel
theorem dX7_find_13 : decode cX7_find 13 = .ok (.istore_n 2, 1) := by decide +kernel
theorem dX7_find_14 : decode cX7_find 14 = .ok (.iconst 0, 1) := by decide +kernel
theorem dX7_find_15 : decode cX7_find 15 = .ok (.istore_n 3, 1) := by decide +kernel
theorem dX7_find_16 : decode cX7_find 16 = .ok (.iload_n 3, 1) := by decide +kernel
theorem dX7_find_17 : decode cX7_find 17 = .ok (.bipush 6, 2) := by decide +kernel
theorem dX7_find_19 : decode cX7_find 19 = .ok (.if_icmp .ge 38, 3) := by decide +kernel
theorem dX7_find_22 : decode cX7_find 22 = .ok (.iload_n 2, 1) := by decide +kernel
theorem dX7_find_23 : decode cX7_find 23 = .ok (.ifCond .eq 34, 3) := by decide +kernel
theorem dX7_find_26 : decode cX7_find 26 = .ok (.aload_n 0, 1) := by decide +kernel
theorem dX7_find_27 : decode cX7_find 27 = .ok (.getfield 25, 3) := by decide +kernel
theorem dX7_find_30 : decode cX7_find 30 = .ok (.bipush 6, 2) := by decide +kernel
theorem dX7_find_32 : decode cX7_find 32 = .ok (.iload_n 1, 1) := by decide +kernel
theorem dX7_find_33 : decode cX7_find 33 = .ok (.imul, 1) := by decide +kernel
theorem dX7_find_34 : decode cX7_find 34 = .ok (.iload_n 3, 1) := by decide +kernel
theorem dX7_find_35 : decode cX7_find 35 = .ok (.iadd, 1) := by decide +kernel
theorem dX7_find_36 : decode cX7_find 36 = .ok (.iaload, 1) := by decide +kernel
theorem dX7_find_37 : decode cX7_find 37 = .ok (.aload_n 0, 1) := by decide +kernel
theorem dX7_find_38 : decode cX7_find 38 = .ok (.iload_n 3, 1) := by decide +kernel
theorem dX7_find_39 : decode cX7_find 39 = .ok (.invokevirtual 217, 3) := by decide +kernel
theorem dX7_find_42 : decode cX7_find 42 = .ok (.if_icmp .ne 7, 3) := by decide +kernel
theorem dX7_find_45 : decode cX7_find 45 = .ok (.iconst 1, 1) := by decide +kernel
theorem dX7_find_46 : decode cX7_find 46 = .ok (.goto 4, 3) := by decide +kernel
theorem dX7_find_49 : decode cX7_find 49 = .ok (.iconst 0, 1) := by decide +kernel
theorem dX7_find_50 : decode cX7_find 50 = .ok (.istore_n 2, 1) := by decide +kernel
theorem dX7_find_51 : decode cX7_find 51 = .ok (.iinc 3 1, 3) := by decide +kernel
theorem dX7_find_54 : decode cX7_find 54 = .ok (.goto (-38), 3) := by decide +kernel
theorem dX7_find_57 : decode cX7_find 57 = .ok (.iload_n 2, 1) := by decide +kernel
theorem dX7_find_58 : decode cX7_find 58 = .ok (.ifCond .eq 5, 3) := by decide +kernel
theorem dX7_find_61 : decode cX7_find 61 = .ok (.iload_n 1, 1) := by decide +kernel
theorem dX7_find_62 : decode cX7_find 62 = .ok (.ireturn, 1) := by decide +kernel
theorem dX7_find_63 : decode cX7_find 63 = .ok (.iinc 1 1, 3) := by decide +kernel
theorem dX7_find_66 : decode cX7_find 66 = .ok (.goto (-64), 3) := by decide +kernel
theorem dX7_find_69 : decode cX7_find 69 = .ok (.iconst (-1), 1) := by decide +kernel
theorem dX7_find_70 : decode cX7_find 70 = .ok (.ireturn, 1) := by decide +kernel
theorem dX7_ruleHere_0 : decode cX7_ruleHere 0 = .ok (.aload_n 0, 1) := by decide +kernel
theorem dX7_ruleHere_1 : decode cX7_ruleHere 1 = .ok (.ldc 209, 2) := by decide +kernel
theorem dX7_ruleHere_3 : decode cX7_ruleHere 3 = .ok (.invokevirtual 193, 3) := by decide +kernel
theorem dX7_ruleHere_6 : decode cX7_ruleHere 6 = .ok (.ifCond .eq 7, 3) := by decide +kernel
theorem dX7_ruleHere_9 : decode cX7_ruleHere 9 = .ok (.iconst 0, 1) := by decide +kernel
theorem dX7_ruleHere_10 : decode cX7_ruleHere 10 = .ok (.goto 30, 3) := by decide +kernel
theorem dX7_ruleHere_13 : decode cX7_ruleHere 13 = .ok (.aload_n 0, 1) := by decide +kernel
theorem dX7_ruleHere_14 : decode cX7_ruleHere 14 = .ok (.ldc 211, 2) := by decide +kernel
theorem dX7_ruleHere_16 : decode cX7_ruleHere 16 = .ok (.invokevirtual 193, 3) := by decide +kernel
theorem dX7_ruleHere_19 : decode cX7_ruleHere 19 = .ok (.ifCond .eq 7, 3) := by decide +kernel
theorem dX7_ruleHere_22 : decode cX7_ruleHere 22 = .ok (.iconst 1, 1) := by decide +kernel
theorem dX7_ruleHere_23 : decode cX7_ruleHere 23 = .ok (.goto 17, 3) := by decide +kernel
theorem dX7_ruleHere_26 : decode cX7_ruleHere 26 = .ok (.aload_n 0, 1) := by decide +kernel
theorem dX7_ruleHere_27 : decode cX7_ruleHere 27 = .ok (.ldc 197, 2) := by decide +kernel
theorem dX7_ruleHere_29 : decode cX7_ruleHere 29 = .ok (.invokevirtual 193, 3) := by decide +kernel
theorem dX7_ruleHere_32 : decode cX7_ruleHere 32 = .ok (.ifCond .eq 7, 3) := by decide +kernel
theorem dX7_ruleHere_35 : decode cX7_ruleHere 35 = .ok (.iconst 2, 1) := by decide +kernel
theorem dX7_ruleHere_36 : decode cX7_ruleHere 36 = .ok (.goto 4, 3) := by decide +kernel
theorem dX7_ruleHere_39 : decode cX7_ruleHere 39 = .ok (.iconst (-1), 1) := by decide +kernel
theorem dX7_ruleHere_40 : decode cX7_ruleHere 40 = .ok (.ireturn, 1) := by decide +kernel
theorem dX7_readRules_0 : decode cX7_readRules 0 = .ok (.aload_n 0, 1) := by decide +kernel
theorem dX7_readRules_1 : decode cX7_readRules 1 = .ok (.invokevirtual 220, 3) := by decide +kernel
theorem dX7_readRules_4 : decode cX7_readRules 4 = .ok (.istore_n 2, 1) := by decide +kernel
theorem dX7_readRules_5 : decode cX7_readRules 5 = .ok (.iload_n 2, 1) := by decide +kernel
theorem dX7_readRules_6 : decode cX7_readRules 6 = .ok (.iconst (-1), 1) := by decide +kernel
theorem dX7_readRules_7 : decode cX7_readRules 7 = .ok (.if_icmp .eq 94, 3) := by decide +kernel
theorem dX7_readRules_10 : decode cX7_readRules 10 = .ok (.iconst 0, 1) := by decide +kernel
theorem dX7_readRules_11 : decode cX7_readRules 11 = .ok (.istore_n 3, 1) := by decide +kernel
theorem dX7_readRules_12 : decode cX7_readRules 12 = .ok (.iload_n 3, 1) := by decide +kernel
theorem dX7_readRules_13 : decode cX7_readRules 13 = .ok (.aload_n 0, 1) := by decide +kernel
theorem dX7_readRules_14 : decode cX7_readRules 14 = .ok (.getfield 7, 3) := by decide +kernel
theorem dX7_readRules_17 : decode cX7_readRules 17 = .ok (.bipush 44, 2) := by decide +kernel
theorem dX7_readRules_19 : decode cX7_readRules 19 = .ok (.iload_n 1, 1) := by decide +kernel
theorem dX7_readRules_20 : decode cX7_readRules 20 = .ok (.iadd, 1) := by decide +kernel
theorem dX7_readRules_21 : decode cX7_readRules 21 = .ok (.iaload, 1) := by decide +kernel
theorem dX7_readRules_22 : decode cX7_readRules 22 = .ok (.if_icmp .ge 32, 3) := by decide +kernel
theorem dX7_readRules_25 : decode cX7_readRules 25 = .ok (.aload_n 0, 1) := by decide +kernel
theorem dX7_readRules_26 : decode cX7_readRules 26 = .ok (.getfield 7, 3) := by decide +kernel
theorem dX7_readRules_29 : decode cX7_readRules 29 = .ok (.bipush 68, 2) := by decide +kernel
theorem dX7_readRules_31 : decode cX7_readRules 31 = .ok (.iconst 3, 1) := by decide +kernel
theorem dX7_readRules_32 : decode cX7_readRules 32 = .ok (.iload_n 1, 1) := by decide +kernel
theorem dX7_readRules_33 : decode cX7_readRules 33 = .ok (.imul, 1) := by decide +kernel
theorem dX7_readRules_34 : decode cX7_readRules 34 = .ok (.iadd, 1) := by decide +kernel
theorem dX7_readRules_35 : decode cX7_readRules 35 = .ok (.iload_n 3, 1) := by decide +kernel
theorem dX7_readRules_36 : decode cX7_readRules 36 = .ok (.iadd, 1) := by decide +kernel
theorem dX7_readRules_37 : decode cX7_readRules 37 = .ok (.iaload, 1) := by decide +kernel
theorem dX7_readRules_38 : decode cX7_readRules 38 = .ok (.iload_n 2, 1) := by decide +kernel
theorem dX7_readRules_39 : decode cX7_readRules 39 = .ok (.if_icmp .ne 9, 3) := by decide +kernel
theorem dX7_readRules_42 : decode cX7_readRules 42 = .ok (.aload_n 0, 1) := by decide +kernel
theorem dX7_readRules_43 : decode cX7_readRules 43 = .ok (.iconst 1, 1) := by decide +kernel
theorem dX7_readRules_44 : decode cX7_readRules 44 = .ok (.invokevirtual 178, 3) := by decide +kernel
theorem dX7_readRules_47 : decode cX7_readRules 47 = .ok (.ireturn, 1) := by decide +kernel
theorem dX7_readRules_48 : decode cX7_readRules 48 = .ok (.iinc 3 1, 3) := by decide +kernel
theorem dX7_readRules_51 : decode cX7_readRules 51 = .ok (.goto (-39), 3) := by decide +kernel
theorem dX7_readRules_54 : decode cX7_readRules 54 = .ok (.aload_n 0, 1) := by decide +kernel
theorem dX7_readRules_55 : decode cX7_readRules 55 = .ok (.getfield 7, 3) := by decide +kernel
theorem dX7_readRules_58 : decode cX7_readRules 58 = .ok (.bipush 68, 2) := by decide +kernel
theorem dX7_readRules_60 : decode cX7_readRules 60 = .ok (.iconst 3, 1) := by decide +kernel
theorem dX7_readRules_61 : decode cX7_readRules 61 = .ok (.iload_n 1, 1) := by decide +kernel
theorem dX7_readRules_62 : decode cX7_readRules 62 = .ok (.imul, 1) := by decide +kernel
theorem dX7_readRules_63 : decode cX7_readRules 63 = .ok (.iadd, 1) := by decide +kernel
theorem dX7_readRules_64 : decode cX7_readRules 64 = .ok (.aload_n 0, 1) := by decide +kernel
theorem dX7_readRules_65 : decode cX7_readRules 65 = .ok (.getfield 7, 3) := by decide +kernel
theorem dX7_readRules_68 : decode cX7_readRules 68 = .ok (.bipush 44, 2) := by decide +kernel
theorem dX7_readRules_70 : decode cX7_readRules 70 = .ok (.iload_n 1, 1) := by decide +kernel
theorem dX7_readRules_71 : decode cX7_readRules 71 = .ok (.iadd, 1) := by decide +kernel
theorem dX7_readRules_72 : decode cX7_readRules 72 = .ok (.iaload, 1) := by decide +kernel
theorem dX7_readRules_73 : decode cX7_readRules 73 = .ok (.iadd, 1) := by decide +kernel
theorem dX7_readRules_74 : decode cX7_readRules 74 = .ok (.iload_n 2, 1) := by decide +kernel
theorem dX7_readRules_75 : decode cX7_readRules 75 = .ok (.iastore, 1) := by decide +kernel
theorem dX7_readRules_76 : decode cX7_readRules 76 = .ok (.aload_n 0, 1) := by decide +kernel
theorem dX7_readRules_77 : decode cX7_readRules 77 = .ok (.getfield 7, 3) := by decide +kernel
theorem dX7_readRules_80 : decode cX7_readRules 80 = .ok (.bipush 44, 2) := by decide +kernel
theorem dX7_readRules_82 : decode cX7_readRules 82 = .ok (.iload_n 1, 1) := by decide +kernel
theorem dX7_readRules_83 : decode cX7_readRules 83 = .ok (.iadd, 1) := by decide +kernel
theorem dX7_readRules_84 : decode cX7_readRules 84 = .ok (.dup2, 1) := by decide +kernel
theorem dX7_readRules_85 : decode cX7_readRules 85 = .ok (.iaload, 1) := by decide +kernel
theorem dX7_readRules_86 : decode cX7_readRules 86 = .ok (.iconst 1, 1) := by decide +kernel
theorem dX7_readRules_87 : decode cX7_readRules 87 = .ok (.iadd, 1) := by decide +kernel
theorem dX7_readRules_88 : decode cX7_readRules 88 = .ok (.iastore, 1) := by decide +kernel
theorem dX7_readRules_89 : decode cX7_readRules 89 = .ok (.aload_n 0, 1) := by decide +kernel
theorem dX7_readRules_90 : decode cX7_readRules 90 = .ok (.invokevirtual 181, 3) := by decide +kernel
theorem dX7_readRules_93 : decode cX7_readRules 93 = .ok (.aload_n 0, 1) := by decide +kernel
theorem dX7_readRules_94 : decode cX7_readRules 94 = .ok (.invokevirtual 220, 3) := by decide +kernel
theorem dX7_readRules_97 : decode cX7_readRules 97 = .ok (.istore_n 2, 1) := by decide +kernel
theorem dX7_readRules_98 : decode cX7_readRules 98 = .ok (.goto (-93), 3) := by decide +kernel
theorem dX7_readRules_101 : decode cX7_readRules 101 = .ok (.iconst 1, 1) := by decide +kernel
theorem dX7_readRules_102 : decode cX7_readRules 102 = .ok (.ireturn, 1) := by decide +kernel
theorem dX7_readSchool_0 : decode cX7_readSchool 0 = .ok (.aload_n 0, 1) := by decide +kernel
theorem dX7_readSchool_1 : decode cX7_readSchool 1 = .ok (.getfield 7, 3) := by decide +kernel
theorem dX7_readSchool_4 : decode cX7_readSchool 4 = .ok (.iconst 0, 1) := by decide +kernel
theorem dX7_readSchool_5 : decode cX7_readSchool 5 = .ok (.iaload, 1) := by decide +kernel
theorem dX7_readSchool_6 : decode cX7_readSchool 6 = .ok (.istore_n 1, 1) := by decide +kernel
theorem dX7_readSchool_7 : decode cX7_readSchool 7 = .ok (.aload_n 0, 1) := by decide +kernel
theorem dX7_readSchool_8 : decode cX7_readSchool 8 = .ok (.iload_n 1, 1) := by decide +kernel
theorem dX7_readSchool_9 : decode cX7_readSchool 9 = .ok (.bipush 8, 2) := by decide +kernel
theorem dX7_readSchool_11 : decode cX7_readSchool 11 = .ok (.if_icmp .ge 7, 3) := by decide +kernel
theorem dX7_readSchool_14 : decode cX7_readSchool 14 = .ok (.iconst 1, 1) := by decide +kernel
theorem dX7_readSchool_15 : decode cX7_readSchool 15 = .ok (.goto 4, 3) := by decide +kernel
theorem dX7_readSchool_18 : decode cX7_readSchool 18 = .ok (.iconst 0, 1) := by decide +kernel
theorem dX7_readSchool_19 : decode cX7_readSchool 19 = .ok (.invokevirtual 187, 3) := by decide +kernel
theorem dX7_readSchool_22 : decode cX7_readSchool 22 = .ok (.ifCond .ne 5, 3) := by decide +kernel
theorem dX7_readSchool_25 : decode cX7_readSchool 25 = .ok (.iconst 0, 1) := by decide +kernel
theorem dX7_readSchool_26 : decode cX7_readSchool 26 = .ok (.ireturn, 1) := by decide +kernel
theorem dX7_readSchool_27 : decode cX7_readSchool 27 = .ok (.aload_n 0, 1) := by decide +kernel
theorem dX7_readSchool_28 : decode cX7_readSchool 28 = .ok (.invokevirtual 223, 3) := by decide +kernel
theorem dX7_readSchool_31 : decode cX7_readSchool 31 = .ok (.ifCond .ne 9, 3) := by decide +kernel
theorem dX7_readSchool_34 : decode cX7_readSchool 34 = .ok (.aload_n 0, 1) := by decide +kernel
theorem dX7_readSchool_35 : decode cX7_readSchool 35 = .ok (.iconst 1, 1) := by decide +kernel
theorem dX7_readSchool_36 : decode cX7_readSchool 36 = .ok (.invokevirtual 178, 3) := by decide +kernel
theorem dX7_readSchool_39 : decode cX7_readSchool 39 = .ok (.ireturn, 1) := by decide +kernel
theorem dX7_readSchool_40 : decode cX7_readSchool 40 = .ok (.aload_n 0, 1) := by decide +kernel
theorem dX7_readSchool_41 : decode cX7_readSchool 41 = .ok (.invokevirtual 227, 3) := by decide +kernel
theorem dX7_readSchool_44 : decode cX7_readSchool 44 = .ok (.iconst (-1), 1) := by decide +kernel
theorem dX7_readSchool_45 : decode cX7_readSchool 45 = .ok (.if_icmp .eq 9, 3) := by decide +kernel
theorem dX7_readSchool_48 : decode cX7_readSchool 48 = .ok (.aload_n 0, 1) := by decide +kernel
theorem dX7_readSchool_49 : decode cX7_readSchool 49 = .ok (.iconst 3, 1) := by decide +kernel
theorem dX7_readSchool_50 : decode cX7_readSchool 50 = .ok (.invokevirtual 178, 3) := by decide +kernel
theorem dX7_readSchool_53 : decode cX7_readSchool 53 = .ok (.ireturn, 1) := by decide +kernel
theorem dX7_readSchool_54 : decode cX7_readSchool 54 = .ok (.iconst 0, 1) := by decide +kernel
theorem dX7_readSchool_55 : decode cX7_readSchool 55 = .ok (.istore_n 2, 1) := by decide +kernel
theorem dX7_readSchool_56 : decode cX7_readSchool 56 = .ok (.iload_n 2, 1) := by decide +kernel
theorem dX7_readSchool_57 : decode cX7_readSchool 57 = .ok (.bipush 6, 2) := by decide +kernel
theorem dX7_readSchool_59 : decode cX7_readSchool 59 = .ok (.if_icmp .ge 25, 3) := by decide +kernel
theorem dX7_readSchool_62 : decode cX7_readSchool 62 = .ok (.aload_n 0, 1) := by decide +kernel
theorem dX7_readSchool_63 : decode cX7_readSchool 63 = .ok (.getfield 25, 3) := by decide +kernel
theorem dX7_readSchool_66 : decode cX7_readSchool 66 = .ok (.bipush 6, 2) := by decide +kernel
theorem dX7_readSchool_68 : decode cX7_readSchool 68 = .ok (.iload_n 1, 1) := by decide +kernel
theorem dX7_readSchool_69 : decode cX7_readSchool 69 = .ok (.imul, 1) := by decide +kernel
theorem dX7_readSchool_70 : decode cX7_readSchool 70 = .ok (.iload_n 2, 1) := by decide +kernel
theorem dX7_readSchool_71 : decode cX7_readSchool 71 = .ok (.iadd, 1) := by decide +kernel
theorem dX7_readSchool_72 : decode cX7_readSchool 72 = .ok (.aload_n 0, 1) := by decide +kernel
theorem dX7_readSchool_73 : decode cX7_readSchool 73 = .ok (.iload_n 2, 1) := by decide +kernel
theorem dX7_readSchool_74 : decode cX7_readSchool 74 = .ok (.invokevirtual 217, 3) := by decide +kernel
theorem dX7_readSchool_77 : decode cX7_readSchool 77 = .ok (.iastore, 1) := by decide +kernel
theorem dX7_readSchool_78 : decode cX7_readSchool 78 = .ok (.iinc 2 1, 3) := by decide +kernel
theorem dX7_readSchool_81 : decode cX7_readSchool 81 = .ok (.goto (-25), 3) := by decide +kernel
theorem dX7_readSchool_84 : decode cX7_readSchool 84 = .ok (.aload_n 0, 1) := by decide +kernel
theorem dX7_readSchool_85 : decode cX7_readSchool 85 = .ok (.invokevirtual 181, 3) := by decide +kernel
theorem dX7_readSchool_88 : decode cX7_readSchool 88 = .ok (.aload_n 0, 1) := by decide +kernel
theorem dX7_readSchool_89 : decode cX7_readSchool 89 = .ok (.bipush 20, 2) := by decide +kernel
theorem dX7_readSchool_91 : decode cX7_readSchool 91 = .ok (.iload_n 1, 1) := by decide +kernel
theorem dX7_readSchool_92 : decode cX7_readSchool 92 = .ok (.iadd, 1) := by decide +kernel
theorem dX7_readSchool_93 : decode cX7_readSchool 93 = .ok (.iconst 0, 1) := by decide +kernel
theorem dX7_readSchool_94 : decode cX7_readSchool 94 = .ok (.bipush 40, 2) := by decide +kernel
theorem dX7_readSchool_96 : decode cX7_readSchool 96 = .ok (.invokevirtual 230, 3) := by decide +kernel
theorem dX7_readSchool_99 : decode cX7_readSchool 99 = .ok (.ifCond .eq 39, 3) := by decide +kernel
theorem dX7_readSchool_102 : decode cX7_readSchool 102 = .ok (.aload_n 0, 1) := by decide +kernel
theorem dX7_readSchool_103 : decode cX7_readSchool 103 = .ok (.bipush 28, 2) := by decide +kernel
theorem dX7_readSchool_105 : decode cX7_readSchool 105 = .ok (.iload_n 1, 1) := by decide +kernel
theorem dX7_readSchool_106 : decode cX7_readSchool 106 = .ok (.iadd, 1) := by decide +kernel
theorem dX7_readSchool_107 : decode cX7_readSchool 107 = .ok (.iconst 0, 1) := by decide +kernel
theorem dX7_readSchool_108 : decode cX7_readSchool 108 = .ok (.bipush 99, 2) := by decide +kernel
theorem dX7_readSchool_110 : decode cX7_readSchool 110 = .ok (.invokevirtual 230, 3) := by decide +kernel
theorem dX7_readSchool_113 : decode cX7_readSchool 113 = .ok (.ifCond .eq 25, 3) := by decide +kernel
theorem dX7_readSchool_116 : decode cX7_readSchool 116 = .ok (.aload_n 0, 1) := by decide +kernel
theorem dX7_readSchool_117 : decode cX7_readSchool 117 = .ok (.bipush 36, 2) := by decide +kernel
theorem dX7_readSchool_119 : decode cX7_readSchool 119 = .ok (.iload_n 1, 1) := by decide +kernel
theorem dX7_readSchool_120 : decode cX7_readSchool 120 = .ok (.iadd, 1) := by decide +kernel
theorem dX7_readSchool_121 : decode cX7_readSchool 121 = .ok (.iconst 0, 1) := by decide +kernel
theorem dX7_readSchool_122 : decode cX7_readSchool 122 = .ok (.bipush 99, 2) := by decide +kernel
theorem dX7_readSchool_124 : decode cX7_readSchool 124 = .ok (.invokevirtual 230, 3) := by decide +kernel
theorem dX7_readSchool_127 : decode cX7_readSchool 127 = .ok (.ifCond .eq 11, 3) := by decide +kernel
theorem dX7_readSchool_130 : decode cX7_readSchool 130 = .ok (.aload_n 0, 1) := by decide +kernel
theorem dX7_readSchool_131 : decode cX7_readSchool 131 = .ok (.iload_n 1, 1) := by decide +kernel
theorem dX7_readSchool_132 : decode cX7_readSchool 132 = .ok (.invokevirtual 233, 3) := by decide +kernel
theorem dX7_readSchool_135 : decode cX7_readSchool 135 = .ok (.ifCond .ne 5, 3) := by decide +kernel
theorem dX7_readSchool_138 : decode cX7_readSchool 138 = .ok (.iconst 0, 1) := by decide +kernel
theorem dX7_readSchool_139 : decode cX7_readSchool 139 = .ok (.ireturn, 1) := by decide +kernel
theorem dX7_readSchool_140 : decode cX7_readSchool 140 = .ok (.aload_n 0, 1) := by decide +kernel
theorem dX7_readSchool_141 : decode cX7_readSchool 141 = .ok (.getfield 7, 3) := by decide +kernel
theorem dX7_readSchool_144 : decode cX7_readSchool 144 = .ok (.iconst 0, 1) := by decide +kernel
theorem dX7_readSchool_145 : decode cX7_readSchool 145 = .ok (.dup2, 1) := by decide +kernel
theorem dX7_readSchool_146 : decode cX7_readSchool 146 = .ok (.iaload, 1) := by decide +kernel
theorem dX7_readSchool_147 : decode cX7_readSchool 147 = .ok (.iconst 1, 1) := by decide +kernel
theorem dX7_readSchool_148 : decode cX7_readSchool 148 = .ok (.iadd, 1) := by decide +kernel
theorem dX7_readSchool_149 : decode cX7_readSchool 149 = .ok (.iastore, 1) := by decide +kernel
theorem dX7_readSchool_150 : decode cX7_readSchool 150 = .ok (.iconst 1, 1) := by decide +kernel
theorem dX7_readSchool_151 : decode cX7_readSchool 151 = .ok (.ireturn, 1) := by decide +kernel
theorem dX7_takesSchool_0 : decode cX7_takesSchool 0 = .ok (.aload_n 0, 1) := by decide +kernel
theorem dX7_takesSchool_1 : decode cX7_takesSchool 1 = .ok (.invokevirtual 223, 3) := by decide +kernel
theorem dX7_takesSchool_4 : decode cX7_takesSchool 4 = .ok (.ifCond .ne 9, 3) := by decide +kernel
theorem dX7_takesSchool_7 : decode cX7_takesSchool 7 = .ok (.aload_n 0, 1) := by decide +kernel
theorem dX7_takesSchool_8 : decode cX7_takesSchool 8 = .ok (.iconst 1, 1) := by decide +kernel
theorem dX7_takesSchool_9 : decode cX7_takesSchool 9 = .ok (.invokevirtual 178, 3) := by decide +kernel
theorem dX7_takesSchool_12 : decode cX7_takesSchool 12 = .ok (.ireturn, 1) := by decide +kernel
theorem dX7_takesSchool_13 : decode cX7_takesSchool 13 = .ok (.aload_n 0, 1) := by decide +kernel
theorem dX7_takesSchool_14 : decode cX7_takesSchool 14 = .ok (.invokevirtual 227, 3) := by decide +kernel
theorem dX7_takesSchool_17 : decode cX7_takesSchool 17 = .ok (.istore_n 2, 1) := by decide +kernel
theorem dX7_takesSchool_18 : decode cX7_takesSchool 18 = .ok (.iload_n 2, 1) := by decide +kernel
theorem dX7_takesSchool_19 : decode cX7_takesSchool 19 = .ok (.iconst (-1), 1) := by decide +kernel
theorem dX7_takesSchool_20 : decode cX7_takesSchool 20 = .ok (.if_icmp .ne 9, 3) := by decide +kernel
theorem dX7_takesSchool_23 : decode cX7_takesSchool 23 = .ok (.aload_n 0, 1) := by decide +kernel
theorem dX7_takesSchool_24 : decode cX7_takesSchool 24 = .ok (.iconst 3, 1) := by decide +kernel
theorem dX7_takesSchool_25 : decode cX7_takesSchool 25 = .ok (.invokevirtual 178, 3) := by decide +kernel
theorem dX7_takesSchool_28 : decode cX7_takesSchool 28 = .ok (.ireturn, 1) := by decide +kernel
theorem dX7_takesSchool_29 : decode cX7_takesSchool 29 = .ok (.aload_n 0, 1) := by decide +kernel
theorem dX7_takesSchool_30 : decode cX7_takesSchool 30 = .ok (.getfield 7, 3) := by decide +kernel
theorem dX7_takesSchool_33 : decode cX7_takesSchool 33 = .ok (.iload_n 1, 1) := by decide +kernel
theorem dX7_takesSchool_34 : decode cX7_takesSchool 34 = .ok (.iload_n 2, 1) := by decide +kernel
theorem dX7_takesSchool_35 : decode cX7_takesSchool 35 = .ok (.iastore, 1) := by decide +kernel
theorem dX7_takesSchool_36 : decode cX7_takesSchool 36 = .ok (.aload_n 0, 1) := by decide +kernel
theorem dX7_takesSchool_37 : decode cX7_takesSchool 37 = .ok (.invokevirtual 181, 3) := by decide +kernel
theorem dX7_takesSchool_40 : decode cX7_takesSchool 40 = .ok (.iconst 1, 1) := by decide +kernel
theorem dX7_takesSchool_41 : decode cX7_takesSchool 41 = .ok (.ireturn, 1) := by decide +kernel
theorem dX7_readZone_0 : decode cX7_readZone 0 = .ok (.aload_n 0, 1) := by decide +kernel
theorem dX7_readZone_1 : decode cX7_readZone 1 = .ok (.invokevirtual 181, 3) := by decide +kernel
theorem dX7_readZone_4 : decode cX7_readZone 4 = .ok (.aload_n 0, 1) := by decide +kernel
theorem dX7_readZone_5 : decode cX7_readZone 5 = .ok (.invokevirtual 223, 3) := by decide +kernel
theorem dX7_readZone_8 : decode cX7_readZone 8 = .ok (.ifCond .ne 9, 3) := by decide +kernel
theorem dX7_readZone_11 : decode cX7_readZone 11 = .ok (.aload_n 0, 1) := by decide +kernel
theorem dX7_readZone_12 : decode cX7_readZone 12 = .ok (.iconst 1, 1) := by decide +kernel
theorem dX7_readZone_13 : decode cX7_readZone 13 = .ok (.invokevirtual 178, 3) := by decide +kernel
theorem dX7_readZone_16 : decode cX7_readZone 16 = .ok (.ireturn, 1) := by decide +kernel
theorem dX7_readZone_17 : decode cX7_readZone 17 = .ok (.aload_n 0, 1) := by decide +kernel
theorem dX7_readZone_18 : decode cX7_readZone 18 = .ok (.invokevirtual 227, 3) := by decide +kernel
theorem dX7_readZone_21 : decode cX7_readZone 21 = .ok (.istore_n 1, 1) := by decide +kernel
theorem dX7_readZone_22 : decode cX7_readZone 22 = .ok (.iload_n 1, 1) := by decide +kernel
theorem dX7_readZone_23 : decode cX7_readZone 23 = .ok (.iconst (-1), 1) := by decide +kernel
theorem dX7_readZone_24 : decode cX7_readZone 24 = .ok (.if_icmp .eq 16, 3) := by decide +kernel
theorem dX7_readZone_27 : decode cX7_readZone 27 = .ok (.aload_n 0, 1) := by decide +kernel
theorem dX7_readZone_28 : decode cX7_readZone 28 = .ok (.getfield 7, 3) := by decide +kernel
theorem dX7_readZone_31 : decode cX7_readZone 31 = .ok (.bipush 52, 2) := by decide +kernel
theorem dX7_readZone_33 : decode cX7_readZone 33 = .ok (.iload_n 1, 1) := by decide +kernel
theorem dX7_readZone_34 : decode cX7_readZone 34 = .ok (.iadd, 1) := by decide +kernel
theorem dX7_readZone_35 : decode cX7_readZone 35 = .ok (.iaload, 1) := by decide +kernel
theorem dX7_readZone_36 : decode cX7_readZone 36 = .ok (.iconst 1, 1) := by decide +kernel
theorem dX7_readZone_37 : decode cX7_readZone 37 = .ok (.if_icmp .ne 9, 3) := by decide +kernel
theorem dX7_readZone_40 : decode cX7_readZone 40 = .ok (.aload_n 0, 1) := by decide +kernel
theorem dX7_readZone_41 : decode cX7_readZone 41 = .ok (.iconst 3, 1) := by decide +kernel
theorem dX7_readZone_42 : decode cX7_readZone 42 = .ok (.invokevirtual 178, 3) := by decide +kernel
theorem dX7_readZone_45 : decode cX7_readZone 45 = .ok (.ireturn, 1) := by decide +kernel
theorem dX7_readZone_46 : decode cX7_readZone 46 = .ok (.aload_n 0, 1) := by decide +kernel
theorem dX7_readZone_47 : decode cX7_readZone 47 = .ok (.invokevirtual 181, 3) := by decide +kernel
theorem dX7_readZone_50 : decode cX7_readZone 50 = .ok (.aload_n 0, 1) := by decide +kernel
theorem dX7_readZone_51 : decode cX7_readZone 51 = .ok (.getfield 7, 3) := by decide +kernel
theorem dX7_readZone_54 : decode cX7_readZone 54 = .ok (.bipush 52, 2) := by decide +kernel
theorem dX7_readZone_56 : decode cX7_readZone 56 = .ok (.iload_n 1, 1) := by decide +kernel
theorem dX7_readZone_57 : decode cX7_readZone 57 = .ok (.iadd, 1) := by decide +kernel
theorem dX7_readZone_58 : decode cX7_readZone 58 = .ok (.iconst 1, 1) := by decide +kernel
theorem dX7_readZone_59 : decode cX7_readZone 59 = .ok (.iastore, 1) := by decide +kernel
theorem dX7_readZone_60 : decode cX7_readZone 60 = .ok (.bipush 92, 2) := by decide +kernel
theorem dX7_readZone_62 : decode cX7_readZone 62 = .ok (.iconst 4, 1) := by decide +kernel
theorem dX7_readZone_63 : decode cX7_readZone 63 = .ok (.iload_n 1, 1) := by decide +kernel
theorem dX7_readZone_64 : decode cX7_readZone 64 = .ok (.imul, 1) := by decide +kernel
theorem dX7_readZone_65 : decode cX7_readZone 65 = .ok (.iadd, 1) := by decide +kernel
theorem dX7_readZone_66 : decode cX7_readZone 66 = .ok (.istore_n 2, 1) := by decide +kernel
theorem dX7_readZone_67 : decode cX7_readZone 67 = .ok (.aload_n 0, 1) := by decide +kernel
theorem dX7_readZone_68 : decode cX7_readZone 68 = .ok (.iload_n 2, 1) := by decide +kernel
theorem dX7_readZone_69 : decode cX7_readZone 69 = .ok (.iconst 0, 1) := by decide +kernel
theorem dX7_readZone_70 : decode cX7_readZone 70 = .ok (.bipush 99, 2) := by decide +kernel
theorem dX7_readZone_72 : decode cX7_readZone 72 = .ok (.invokevirtual 230, 3) := by decide +kernel
theorem dX7_readZone_75 : decode cX7_readZone 75 = .ok (.ifCond .eq 58, 3) := by decide +kernel
theorem dX7_readZone_78 : decode cX7_readZone 78 = .ok (.aload_n 0, 1) := by decide +kernel
theorem dX7_readZone_79 : decode cX7_readZone 79 = .ok (.iload_n 2, 1) := by decide +kernel
theorem dX7_readZone_80 : decode cX7_readZone 80 = .ok (.iconst 1, 1) := by decide +kernel
theorem dX7_readZone_81 : decode cX7_readZone 81 = .ok (.iadd, 1) := by decide +kernel
theorem dX7_readZone_82 : decode cX7_readZone 82 = .ok (.iconst 0, 1) := by decide +kernel
theorem dX7_readZone_83 : decode cX7_readZone 83 = .ok (.bipush 99, 2) := by decide +kernel
theorem dX7_readZone_85 : decode cX7_readZone 85 = .ok (.invokevirtual 230, 3) := by decide +kernel
theorem dX7_readZone_88 : decode cX7_readZone 88 = .ok (.ifCond .eq 45, 3) := by decide +kernel
theorem dX7_readZone_91 : decode cX7_readZone 91 = .ok (.aload_n 0, 1) := by decide +kernel
theorem dX7_readZone_92 : decode cX7_readZone 92 = .ok (.iload_n 2, 1) := by decide +kernel
theorem dX7_readZone_93 : decode cX7_readZone 93 = .ok (.iconst 2, 1) := by decide +kernel
theorem dX7_readZone_94 : decode cX7_readZone 94 = .ok (.iadd, 1) := by decide +kernel
theorem dX7_readZone_95 : decode cX7_readZone 95 = .ok (.aload_n 0, 1) := by decide +kernel
theorem dX7_readZone_96 : decode cX7_readZone 96 = .ok (.getfield 7, 3) := by decide +kernel
theorem dX7_readZone_99 : decode cX7_readZone 99 = .ok (.iload_n 2, 1) := by decide +kernel
theorem dX7_readZone_100 : decode cX7_readZone 100 = .ok (.iaload, 1) := by decide +kernel
theorem dX7_readZone_101 : decode cX7_readZone 101 = .ok (.bipush 99, 2) := by decide +kernel
theorem dX7_readZone_103 : decode cX7_readZone 103 = .ok (.invokevirtual 230, 3) := by decide +kernel
theorem dX7_readZone_106 : decode cX7_readZone 106 = .ok (.ifCond .eq 27, 3) := by decide +kernel
theorem dX7_readZone_109 : decode cX7_readZone 109 = .ok (.aload_n 0, 1) := by decide +kernel
theorem dX7_readZone_110 : decode cX7_readZone 110 = .ok (.iload_n 2, 1) := by decide +kernel
theorem dX7_readZone_111 : decode cX7_readZone 111 = .ok (.iconst 3, 1) := by decide +kernel
theorem dX7_readZone_112 : decode cX7_readZone 112 = .ok (.iadd, 1) := by decide +kernel
theorem dX7_readZone_113 : decode cX7_readZone 113 = .ok (.aload_n 0, 1) := by decide +kernel
theorem dX7_readZone_114 : decode cX7_readZone 114 = .ok (.getfield 7, 3) := by decide +kernel
theorem dX7_readZone_117 : decode cX7_readZone 117 = .ok (.iload_n 2, 1) := by decide +kernel
theorem dX7_readZone_118 : decode cX7_readZone 118 = .ok (.iconst 1, 1) := by decide +kernel
theorem dX7_readZone_119 : decode cX7_readZone 119 = .ok (.iadd, 1) := by decide +kernel
theorem dX7_readZone_120 : decode cX7_readZone 120 = .ok (.iaload, 1) := by decide +kernel
theorem dX7_readZone_121 : decode cX7_readZone 121 = .ok (.bipush 99, 2) := by decide +kernel
theorem dX7_readZone_123 : decode cX7_readZone 123 = .ok (.invokevirtual 230, 3) := by decide +kernel
theorem dX7_readZone_126 : decode cX7_readZone 126 = .ok (.ifCond .eq 7, 3) := by decide +kernel
theorem dX7_readZone_129 : decode cX7_readZone 129 = .ok (.iconst 1, 1) := by decide +kernel
theorem dX7_readZone_130 : decode cX7_readZone 130 = .ok (.goto 4, 3) := by decide +kernel
theorem dX7_readZone_133 : decode cX7_readZone 133 = .ok (.iconst 0, 1) := by decide +kernel
theorem dX7_readZone_134 : decode cX7_readZone 134 = .ok (.ireturn, 1) := by decide +kernel
theorem dX7_readPupil_0 : decode cX7_readPupil 0 = .ok (.aload_n 0, 1) := by decide +kernel
theorem dX7_readPupil_1 : decode cX7_readPupil 1 = .ok (.getfield 7, 3) := by decide +kernel
theorem dX7_readPupil_4 : decode cX7_readPupil 4 = .ok (.iconst 2, 1) := by decide +kernel
theorem dX7_readPupil_5 : decode cX7_readPupil 5 = .ok (.iaload, 1) := by decide +kernel
theorem dX7_readPupil_6 : decode cX7_readPupil 6 = .ok (.istore_n 1, 1) := by decide +kernel
theorem dX7_readPupil_7 : decode cX7_readPupil 7 = .ok (.aload_n 0, 1) := by decide +kernel
theorem dX7_readPupil_8 : decode cX7_readPupil 8 = .ok (.iload_n 1, 1) := by decide +kernel
theorem dX7_readPupil_9 : decode cX7_readPupil 9 = .ok (.bipush 20, 2) := by decide +kernel
theorem dX7_readPupil_11 : decode cX7_readPupil 11 = .ok (.if_icmp .ge 7, 3) := by decide +kernel
theorem dX7_readPupil_14 : decode cX7_readPupil 14 = .ok (.iconst 1, 1) := by decide +kernel
theorem dX7_readPupil_15 : decode cX7_readPupil 15 = .ok (.goto 4, 3) := by decide +kernel
theorem dX7_readPupil_18 : decode cX7_readPupil 18 = .ok (.iconst 0, 1) := by decide +kernel
theorem dX7_readPupil_19 : decode cX7_readPupil 19 = .ok (.invokevirtual 187, 3) := by decide +kernel
theorem dX7_readPupil_22 : decode cX7_readPupil 22 = .ok (.ifCond .eq 36, 3) := by decide +kernel
theorem dX7_readPupil_25 : decode cX7_readPupil 25 = .ok (.aload_n 0, 1) := by decide +kernel
theorem dX7_readPupil_26 : decode cX7_readPupil 26 = .ok (.sipush 724, 3) := by decide +kernel
theorem dX7_readPupil_29 : decode cX7_readPupil 29 = .ok (.iconst 2, 1) := by decide +kernel
theorem dX7_readPupil_30 : decode cX7_readPupil 30 = .ok (.iload_n 1, 1) := by decide +kernel
theorem dX7_readPupil_31 : decode cX7_readPupil 31 = .ok (.imul, 1) := by decide +kernel
theorem dX7_readPupil_32 : decode cX7_readPupil 32 = .ok (.iadd, 1) := by decide +kernel
theorem dX7_readPupil_33 : decode cX7_readPupil 33 = .ok (.iconst 1, 1) := by decide +kernel
theorem dX7_readPupil_34 : decode cX7_readPupil 34 = .ok (.bipush 99, 2) := by decide +kernel
theorem dX7_readPupil_36 : decode cX7_readPupil 36 = .ok (.invokevirtual 230, 3) := by decide +kernel
theorem dX7_readPupil_39 : decode cX7_readPupil 39 = .ok (.ifCond .eq 19, 3) := by decide +kernel
theorem dX7_readPupil_42 : decode cX7_readPupil 42 = .ok (.aload_n 0, 1) := by decide +kernel
theorem dX7_readPupil_43 : decode cX7_readPupil 43 = .ok (.sipush 724, 3) := by decide +kernel
theorem dX7_readPupil_46 : decode cX7_readPupil 46 = .ok (.iconst 2, 1) := by decide +kernel
theorem dX7_readPupil_47 : decode cX7_readPupil 47 = .ok (.iload_n 1, 1) := by decide +kernel
theorem dX7_readPupil_48 : decode cX7_readPupil 48 = .ok (.imul, 1) := by decide +kernel
theorem dX7_readPupil_49 : decode cX7_readPupil 49 = .ok (.iadd, 1) := by decide +kernel
theorem dX7_readPupil_50 : decode cX7_readPupil 50 = .ok (.iconst 1, 1) := by decide +kernel
theorem dX7_readPupil_51 : decode cX7_readPupil 51 = .ok (.iadd, 1) := by decide +kernel
theorem dX7_readPupil_52 : decode cX7_readPupil 52 = .ok (.invokevirtual 236, 3) := by decide +kernel
theorem dX7_readPupil_55 : decode cX7_readPupil 55 = .ok (.ifCond .ne 5, 3) := by decide +kernel
theorem dX7_readPupil_58 : decode cX7_readPupil 58 = .ok (.iconst 0, 1) := by decide +kernel
theorem dX7_readPupil_59 : decode cX7_readPupil 59 = .ok (.ireturn, 1) := by decide +kernel
theorem dX7_readPupil_60 : decode cX7_readPupil 60 = .ok (.aload_n 0, 1) := by decide +kernel
theorem dX7_readPupil_61 : decode cX7_readPupil 61 = .ok (.getfield 7, 3) := by decide +kernel
theorem dX7_readPupil_64 : decode cX7_readPupil 64 = .ok (.iconst 2, 1) := by decide +kernel
theorem dX7_readPupil_65 : decode cX7_readPupil 65 = .ok (.dup2, 1) := by decide +kernel
theorem dX7_readPupil_66 : decode cX7_readPupil 66 = .ok (.iaload, 1) := by decide +kernel
theorem dX7_readPupil_67 : decode cX7_readPupil 67 = .ok (.iconst 1, 1) := by decide +kernel
theorem dX7_readPupil_68 : decode cX7_readPupil 68 = .ok (.iadd, 1) := by decide +kernel
theorem dX7_readPupil_69 : decode cX7_readPupil 69 = .ok (.iastore, 1) := by decide +kernel
theorem dX7_readPupil_70 : decode cX7_readPupil 70 = .ok (.iconst 1, 1) := by decide +kernel
theorem dX7_readPupil_71 : decode cX7_readPupil 71 = .ok (.ireturn, 1) := by decide +kernel
theorem dX7_readWishes_0 : decode cX7_readWishes 0 = .ok (.aload_n 0, 1) := by decide +kernel
theorem dX7_readWishes_1 : decode cX7_readWishes 1 = .ok (.invokevirtual 223, 3) := by decide +kernel
theorem dX7_readWishes_4 : decode cX7_readWishes 4 = .ok (.ifCond .eq 17, 3) := by decide +kernel
theorem dX7_readWishes_7 : decode cX7_readWishes 7 = .ok (.aload_n 0, 1) := by decide +kernel
theorem dX7_readWishes_8 : decode cX7_readWishes 8 = .ok (.getfield 7, 3) := by decide +kernel
theorem dX7_readWishes_11 : decode cX7_readWishes 11 = .ok (.sipush 324, 3) := by decide +kernel
theorem dX7_readWishes_14 : decode cX7_readWishes 14 = .ok (.iload_n 1, 1) := by decide +kernel
theorem dX7_readWishes_15 : decode cX7_readWishes 15 = .ok (.iadd, 1) := by decide +kernel
theorem dX7_readWishes_16 : decode cX7_readWishes 16 = .ok (.iaload, 1) := by decide +kernel
theorem dX7_readWishes_17 : decode cX7_readWishes 17 = .ok (.iconst 4, 1) := by decide +kernel
theorem dX7_readWishes_18 : decode cX7_readWishes 18 = .ok (.if_icmp .ne 9, 3) := by decide +kernel
theorem dX7_readWishes_21 : decode cX7_readWishes 21 = .ok (.aload_n 0, 1) := by decide +kernel
theorem dX7_readWishes_22 : decode cX7_readWishes 22 = .ok (.iconst 1, 1) := by decide +kernel
theorem dX7_readWishes_23 : decode cX7_readWishes 23 = .ok (.invokevirtual 178, 3) := by decide +kernel
theorem dX7_readWishes_26 : decode cX7_readWishes 26 = .ok (.ireturn, 1) := by decide +kernel
theorem dX7_readWishes_27 : decode cX7_readWishes 27 = .ok (.aload_n 0, 1) := by decide +kernel
theorem dX7_readWishes_28 : decode cX7_readWishes 28 = .ok (.invokevirtual 227, 3) := by decide +kernel
theorem dX7_readWishes_31 : decode cX7_readWishes 31 = .ok (.istore_n 2, 1) := by decide +kernel
theorem dX7_readWishes_32 : decode cX7_readWishes 32 = .ok (.iload_n 2, 1) := by decide +kernel
theorem dX7_readWishes_33 : decode cX7_readWishes 33 = .ok (.iconst (-1), 1) := by decide +kernel
theorem dX7_readWishes_34 : decode cX7_readWishes 34 = .ok (.if_icmp .eq 13, 3) := by decide +kernel
theorem dX7_readWishes_37 : decode cX7_readWishes 37 = .ok (.aload_n 0, 1) := by decide +kernel
theorem dX7_readWishes_38 : decode cX7_readWishes 38 = .ok (.iload_n 1, 1) := by decide +kernel
theorem dX7_readWishes_39 : decode cX7_readWishes 39 = .ok (.iload_n 2, 1) := by decide +kernel
theorem dX7_readWishes_40 : decode cX7_readWishes 40 = .ok (.invokevirtual 87, 3) := by decide +kernel
theorem dX7_readWishes_43 : decode cX7_readWishes 43 = .ok (.iconst (-1), 1) := by decide +kernel
theorem dX7_readWishes_44 : decode cX7_readWishes 44 = .ok (.if_icmp .eq 9, 3) := by decide +kernel
theorem dX7_readWishes_47 : decode cX7_readWishes 47 = .ok (.aload_n 0, 1) := by decide +kernel
theorem dX7_readWishes_48 : decode cX7_readWishes 48 = .ok (.iconst 3, 1) := by decide +kernel
theorem dX7_readWishes_49 : decode cX7_readWishes 49 = .ok (.invokevirtual 178, 3) := by decide +kernel
theorem dX7_readWishes_52 : decode cX7_readWishes 52 = .ok (.ireturn, 1) := by decide +kernel
theorem dX7_readWishes_53 : decode cX7_readWishes 53 = .ok (.aload_n 0, 1) := by decide +kernel
theorem dX7_readWishes_54 : decode cX7_readWishes 54 = .ok (.getfield 7, 3) := by decide +kernel
theorem dX7_readWishes_57 : decode cX7_readWishes 57 = .ok (.sipush 564, 3) := by decide +kernel
theorem dX7_readWishes_60 : decode cX7_readWishes 60 = .ok (.iconst 4, 1) := by decide +kernel
theorem dX7_readWishes_61 : decode cX7_readWishes 61 = .ok (.iload_n 1, 1) := by decide +kernel
theorem dX7_readWishes_62 : decode cX7_readWishes 62 = .ok (.imul, 1) := by decide +kernel
theorem dX7_readWishes_63 : decode cX7_readWishes 63 = .ok (.iadd, 1) := by decide +kernel
theorem dX7_readWishes_64 : decode cX7_readWishes 64 = .ok (.aload_n 0, 1) := by decide +kernel
theorem dX7_readWishes_65 : decode cX7_readWishes 65 = .ok (.getfield 7, 3) := by decide +kernel
theorem dX7_readWishes_68 : decode cX7_readWishes 68 = .ok (.sipush 324, 3) := by decide +kernel
theorem dX7_readWishes_71 : decode cX7_readWishes 71 = .ok (.iload_n 1, 1) := by decide +kernel
theorem dX7_readWishes_72 : decode cX7_readWishes 72 = .ok (.iadd, 1) := by decide +kernel
theorem dX7_readWishes_73 : decode cX7_readWishes 73 = .ok (.iaload, 1) := by decide +kernel
theorem dX7_readWishes_74 : decode cX7_readWishes 74 = .ok (.iadd, 1) := by decide +kernel
theorem dX7_readWishes_75 : decode cX7_readWishes 75 = .ok (.iload_n 2, 1) := by decide +kernel
theorem dX7_readWishes_76 : decode cX7_readWishes 76 = .ok (.iastore, 1) := by decide +kernel
theorem dX7_readWishes_77 : decode cX7_readWishes 77 = .ok (.aload_n 0, 1) := by decide +kernel
theorem dX7_readWishes_78 : decode cX7_readWishes 78 = .ok (.getfield 7, 3) := by decide +kernel
theorem dX7_readWishes_81 : decode cX7_readWishes 81 = .ok (.sipush 324, 3) := by decide +kernel
theorem dX7_readWishes_84 : decode cX7_readWishes 84 = .ok (.iload_n 1, 1) := by decide +kernel
theorem dX7_readWishes_85 : decode cX7_readWishes 85 = .ok (.iadd, 1) := by decide +kernel
theorem dX7_readWishes_86 : decode cX7_readWishes 86 = .ok (.dup2, 1) := by decide +kernel
theorem dX7_readWishes_87 : decode cX7_readWishes 87 = .ok (.iaload, 1) := by decide +kernel
theorem dX7_readWishes_88 : decode cX7_readWishes 88 = .ok (.iconst 1, 1) := by decide +kernel
theorem dX7_readWishes_89 : decode cX7_readWishes 89 = .ok (.iadd, 1) := by decide +kernel
theorem dX7_readWishes_90 : decode cX7_readWishes 90 = .ok (.iastore, 1) := by decide +kernel
theorem dX7_readWishes_91 : decode cX7_readWishes 91 = .ok (.aload_n 0, 1) := by decide +kernel
theorem dX7_readWishes_92 : decode cX7_readWishes 92 = .ok (.invokevirtual 181, 3) := by decide +kernel
theorem dX7_readWishes_95 : decode cX7_readWishes 95 = .ok (.aload_n 0, 1) := by decide +kernel
theorem dX7_readWishes_96 : decode cX7_readWishes 96 = .ok (.getfield 157, 3) := by decide +kernel
theorem dX7_readWishes_99 : decode cX7_readWishes 99 = .ok (.iconst 1, 1) := by decide +kernel
theorem dX7_readWishes_100 : decode cX7_readWishes 100 = .ok (.if_icmp .eq (-100), 3) := by decide +kernel
theorem dX7_readWishes_103 : decode cX7_readWishes 103 = .ok (.iconst 1, 1) := by decide +kernel
theorem dX7_readWishes_104 : decode cX7_readWishes 104 = .ok (.ireturn, 1) := by decide +kernel
theorem dX7_readChild_0 : decode cX7_readChild 0 = .ok (.aload_n 0, 1) := by decide +kernel
theorem dX7_readChild_1 : decode cX7_readChild 1 = .ok (.getfield 7, 3) := by decide +kernel
theorem dX7_readChild_4 : decode cX7_readChild 4 = .ok (.iconst 1, 1) := by decide +kernel
theorem dX7_readChild_5 : decode cX7_readChild 5 = .ok (.iaload, 1) := by decide +kernel
theorem dX7_readChild_6 : decode cX7_readChild 6 = .ok (.istore_n 1, 1) := by decide +kernel
theorem dX7_readChild_7 : decode cX7_readChild 7 = .ok (.aload_n 0, 1) := by decide +kernel
theorem dX7_readChild_8 : decode cX7_readChild 8 = .ok (.iload_n 1, 1) := by decide +kernel
theorem dX7_readChild_9 : decode cX7_readChild 9 = .ok (.bipush 40, 2) := by decide +kernel
theorem dX7_readChild_11 : decode cX7_readChild 11 = .ok (.if_icmp .ge 7, 3) := by decide +kernel
theorem dX7_readChild_14 : decode cX7_readChild 14 = .ok (.iconst 1, 1) := by decide +kernel
theorem dX7_readChild_15 : decode cX7_readChild 15 = .ok (.goto 4, 3) := by decide +kernel
theorem dX7_readChild_18 : decode cX7_readChild 18 = .ok (.iconst 0, 1) := by decide +kernel
theorem dX7_readChild_19 : decode cX7_readChild 19 = .ok (.invokevirtual 187, 3) := by decide +kernel
theorem dX7_readChild_22 : decode cX7_readChild 22 = .ok (.ifCond .eq 32, 3) := by decide +kernel
theorem dX7_readChild_25 : decode cX7_readChild 25 = .ok (.aload_n 0, 1) := by decide +kernel
theorem dX7_readChild_26 : decode cX7_readChild 26 = .ok (.bipush 124, 2) := by decide +kernel
theorem dX7_readChild_28 : decode cX7_readChild 28 = .ok (.iload_n 1, 1) := by decide +kernel
theorem dX7_readChild_29 : decode cX7_readChild 29 = .ok (.iadd, 1) := by decide +kernel
theorem dX7_readChild_30 : decode cX7_readChild 30 = .ok (.iconst 0, 1) := by decide +kernel
theorem dX7_readChild_31 : decode cX7_readChild 31 = .ok (.bipush 99, 2) := by decide +kernel
theorem dX7_readChild_33 : decode cX7_readChild 33 = .ok (.invokevirtual 230, 3) := by decide +kernel
theorem dX7_readChild_36 : decode cX7_readChild 36 = .ok (.ifCond .eq 18, 3) := by decide +kernel
theorem dX7_readChild_39 : decode cX7_readChild 39 = .ok (.aload_n 0, 1) := by decide +kernel
theorem dX7_readChild_40 : decode cX7_readChild 40 = .ok (.sipush 164, 3) := by decide +kernel
theorem dX7_readChild_43 : decode cX7_readChild 43 = .ok (.iload_n 1, 1) := by decide +kernel
theorem dX7_readChild_44 : decode cX7_readChild 44 = .ok (.iadd, 1) := by decide +kernel
theorem dX7_readChild_45 : decode cX7_readChild 45 = .ok (.iconst 0, 1) := by decide +kernel
theorem dX7_readChild_46 : decode cX7_readChild 46 = .ok (.bipush 99, 2) := by decide +kernel
theorem dX7_readChild_48 : decode cX7_readChild 48 = .ok (.invokevirtual 230, 3) := by decide +kernel
theorem dX7_readChild_51 : decode cX7_readChild 51 = .ok (.ifCond .ne 5, 3) := by decide +kernel
theorem dX7_readChild_54 : decode cX7_readChild 54 = .ok (.iconst 0, 1) := by decide +kernel
theorem dX7_readChild_55 : decode cX7_readChild 55 = .ok (.ireturn, 1) := by decide +kernel
theorem dX7_readChild_56 : decode cX7_readChild 56 = .ok (.aload_n 0, 1) := by decide +kernel
theorem dX7_readChild_57 : decode cX7_readChild 57 = .ok (.ldc 209, 2) := by decide +kernel
theorem dX7_readChild_59 : decode cX7_readChild 59 = .ok (.invokevirtual 193, 3) := by decide +kernel
theorem dX7_readChild_62 : decode cX7_readChild 62 = .ok (.ifCond .eq 18, 3) := by decide +kernel
theorem dX7_readChild_65 : decode cX7_readChild 65 = .ok (.aload_n 0, 1) := by decide +kernel
theorem dX7_readChild_66 : decode cX7_readChild 66 = .ok (.getfield 7, 3) := by decide +kernel
theorem dX7_readChild_69 : decode cX7_readChild 69 = .ok (.sipush 244, 3) := by decide +kernel
theorem dX7_readChild_72 : decode cX7_readChild 72 = .ok (.iload_n 1, 1) := by decide +kernel
theorem dX7_readChild_73 : decode cX7_readChild 73 = .ok (.iadd, 1) := by decide +kernel
theorem dX7_readChild_74 : decode cX7_readChild 74 = .ok (.iconst 1, 1) := by decide +kernel
theorem dX7_readChild_75 : decode cX7_readChild 75 = .ok (.iastore, 1) := by decide +kernel
theorem dX7_readChild_76 : decode cX7_readChild 76 = .ok (.aload_n 0, 1) := by decide +kernel
theorem dX7_readChild_77 : decode cX7_readChild 77 = .ok (.invokevirtual 181, 3) := by decide +kernel
theorem dX7_readChild_80 : decode cX7_readChild 80 = .ok (.aload_n 0, 1) := by decide +kernel
theorem dX7_readChild_81 : decode cX7_readChild 81 = .ok (.ldc 213, 2) := by decide +kernel
theorem dX7_readChild_83 : decode cX7_readChild 83 = .ok (.invokevirtual 193, 3) := by decide +kernel
theorem dX7_readChild_86 : decode cX7_readChild 86 = .ok (.ifCond .eq 24, 3) := by decide +kernel
theorem dX7_readChild_89 : decode cX7_readChild 89 = .ok (.aload_n 0, 1) := by decide +kernel
theorem dX7_readChild_90 : decode cX7_readChild 90 = .ok (.invokevirtual 181, 3) := by decide +kernel
theorem dX7_readChild_93 : decode cX7_readChild 93 = .ok (.aload_n 0, 1) := by decide +kernel
theorem dX7_readChild_94 : decode cX7_readChild 94 = .ok (.sipush 204, 3) := by decide +kernel
theorem dX7_readChild_97 : decode cX7_readChild 97 = .ok (.iload_n 1, 1) := by decide +kernel
theorem dX7_readChild_98 : decode cX7_readChild 98 = .ok (.iadd, 1) := by decide +kernel
theorem dX7_readChild_99 : decode cX7_readChild 99 = .ok (.iconst 1, 1) := by decide +kernel
theorem dX7_readChild_100 : decode cX7_readChild 100 = .ok (.bipush 99, 2) := by decide +kernel
theorem dX7_readChild_102 : decode cX7_readChild 102 = .ok (.invokevirtual 230, 3) := by decide +kernel
theorem dX7_readChild_105 : decode cX7_readChild 105 = .ok (.ifCond .ne 5, 3) := by decide +kernel
theorem dX7_readChild_108 : decode cX7_readChild 108 = .ok (.iconst 0, 1) := by decide +kernel
theorem dX7_readChild_109 : decode cX7_readChild 109 = .ok (.ireturn, 1) := by decide +kernel
theorem dX7_readChild_110 : decode cX7_readChild 110 = .ok (.aload_n 0, 1) := by decide +kernel
theorem dX7_readChild_111 : decode cX7_readChild 111 = .ok (.ldc 215, 2) := by decide +kernel
theorem dX7_readChild_113 : decode cX7_readChild 113 = .ok (.invokevirtual 193, 3) := by decide +kernel
theorem dX7_readChild_116 : decode cX7_readChild 116 = .ok (.ifCond .ne 9, 3) := by decide +kernel
theorem dX7_readChild_119 : decode cX7_readChild 119 = .ok (.aload_n 0, 1) := by decide +kernel
theorem dX7_readChild_120 : decode cX7_readChild 120 = .ok (.iconst 1, 1) := by decide +kernel
theorem dX7_readChild_121 : decode cX7_readChild 121 = .ok (.invokevirtual 178, 3) := by decide +kernel
theorem dX7_readChild_124 : decode cX7_readChild 124 = .ok (.ireturn, 1) := by decide +kernel
theorem dX7_readChild_125 : decode cX7_readChild 125 = .ok (.aload_n 0, 1) := by decide +kernel
theorem dX7_readChild_126 : decode cX7_readChild 126 = .ok (.invokevirtual 181, 3) := by decide +kernel
theorem dX7_readChild_129 : decode cX7_readChild 129 = .ok (.aload_n 0, 1) := by decide +kernel
theorem dX7_readChild_130 : decode cX7_readChild 130 = .ok (.iload_n 1, 1) := by decide +kernel
theorem dX7_readChild_131 : decode cX7_readChild 131 = .ok (.invokevirtual 239, 3) := by decide +kernel
theorem dX7_readChild_134 : decode cX7_readChild 134 = .ok (.ifCond .ne 5, 3) := by decide +kernel
theorem dX7_readChild_137 : decode cX7_readChild 137 = .ok (.iconst 0, 1) := by decide +kernel
theorem dX7_readChild_138 : decode cX7_readChild 138 = .ok (.ireturn, 1) := by decide +kernel
theorem dX7_readChild_139 : decode cX7_readChild 139 = .ok (.aload_n 0, 1) := by decide +kernel
theorem dX7_readChild_140 : decode cX7_readChild 140 = .ok (.iload_n 1, 1) := by decide +kernel
theorem dX7_readChild_141 : decode cX7_readChild 141 = .ok (.invokevirtual 242, 3) := by decide +kernel
theorem dX7_readChild_144 : decode cX7_readChild 144 = .ok (.aload_n 0, 1) := by decide +kernel
theorem dX7_readChild_145 : decode cX7_readChild 145 = .ok (.getfield 7, 3) := by decide +kernel
theorem dX7_readChild_148 : decode cX7_readChild 148 = .ok (.iconst 1, 1) := by decide +kernel
theorem dX7_readChild_149 : decode cX7_readChild 149 = .ok (.dup2, 1) := by decide +kernel
theorem dX7_readChild_150 : decode cX7_readChild 150 = .ok (.iaload, 1) := by decide +kernel
theorem dX7_readChild_151 : decode cX7_readChild 151 = .ok (.iconst 1, 1) := by decide +kernel
theorem dX7_readChild_152 : decode cX7_readChild 152 = .ok (.iadd, 1) := by decide +kernel
theorem dX7_readChild_153 : decode cX7_readChild 153 = .ok (.iastore, 1) := by decide +kernel
theorem dX7_readChild_154 : decode cX7_readChild 154 = .ok (.iconst 1, 1) := by decide +kernel
theorem dX7_readChild_155 : decode cX7_readChild 155 = .ok (.ireturn, 1) := by decide +kernel
theorem dX7_draws_0 : decode cX7_draws 0 = .ok (.aload_n 0, 1) := by decide +kernel
theorem dX7_draws_1 : decode cX7_draws 1 = .ok (.getfield 7, 3) := by decide +kernel
theorem dX7_draws_4 : decode cX7_draws 4 = .ok (.bipush 11, 2) := by decide +kernel
theorem dX7_draws_6 : decode cX7_draws 6 = .ok (.aload_n 0, 1) := by decide +kernel
theorem dX7_draws_7 : decode cX7_draws 7 = .ok (.getfield 7, 3) := by decide +kernel
theorem dX7_draws_10 : decode cX7_draws 10 = .ok (.bipush 11, 2) := by decide +kernel
theorem dX7_draws_12 : decode cX7_draws 12 = .ok (.iaload, 1) := by decide +kernel
theorem dX7_draws_13 : decode cX7_draws 13 = .ok (.ldc 245, 2) := by decide +kernel
theorem dX7_draws_15 : decode cX7_draws 15 = .ok (.imul, 1) := by decide +kernel
theorem dX7_draws_16 : decode cX7_draws 16 = .ok (.sipush 12345, 3) := by decide +kernel
theorem dX7_draws_19 : decode cX7_draws 19 = .ok (.iadd, 1) := by decide +kernel
theorem dX7_draws_20 : decode cX7_draws 20 = .ok (.ldc 246, 2) := by decide +kernel
theorem dX7_draws_22 : decode cX7_draws 22 = .ok (.iand, 1) := by decide +kernel
theorem dX7_draws_23 : decode cX7_draws 23 = .ok (.iastore, 1) := by decide +kernel
theorem dX7_draws_24 : decode cX7_draws 24 = .ok (.aload_n 0, 1) := by decide +kernel
theorem dX7_draws_25 : decode cX7_draws 25 = .ok (.getfield 7, 3) := by decide +kernel
theorem dX7_draws_28 : decode cX7_draws 28 = .ok (.sipush 284, 3) := by decide +kernel
theorem dX7_draws_31 : decode cX7_draws 31 = .ok (.iload_n 1, 1) := by decide +kernel
theorem dX7_draws_32 : decode cX7_draws 32 = .ok (.iadd, 1) := by decide +kernel
theorem dX7_draws_33 : decode cX7_draws 33 = .ok (.aload_n 0, 1) := by decide +kernel
theorem dX7_draws_34 : decode cX7_draws 34 = .ok (.getfield 7, 3) := by decide +kernel
theorem dX7_draws_37 : decode cX7_draws 37 = .ok (.bipush 11, 2) := by decide +kernel
theorem dX7_draws_39 : decode cX7_draws 39 = .ok (.iaload, 1) := by decide +kernel
theorem dX7_draws_40 : decode cX7_draws 40 = .ok (.ldc 247, 2) := by decide +kernel
theorem dX7_draws_42 : decode cX7_draws 42 = .ok (.idiv, 1) := by decide +kernel
theorem dX7_draws_43 : decode cX7_draws 43 = .ok (.sipush 10000, 3) := by decide +kernel
theorem dX7_draws_46 : decode cX7_draws 46 = .ok (.irem, 1) := by decide +kernel
theorem dX7_draws_47 : decode cX7_draws 47 = .ok (.iastore, 1) := by decide +kernel
theorem dX7_draws_48 : decode cX7_draws 48 = .ok (.return_, 1) := by decide +kernel
theorem dX7_readSeed_0 : decode cX7_readSeed 0 = .ok (.aload_n 0, 1) := by decide +kernel
theorem dX7_readSeed_1 : decode cX7_readSeed 1 = .ok (.getfield 184, 3) := by decide +kernel
theorem dX7_readSeed_4 : decode cX7_readSeed 4 = .ok (.iconst 1, 1) := by decide +kernel
theorem dX7_readSeed_5 : decode cX7_readSeed 5 = .ok (.iand, 1) := by decide +kernel
theorem dX7_readSeed_6 : decode cX7_readSeed 6 = .ok (.ifCond .ne 16, 3) := by decide +kernel
theorem dX7_readSeed_9 : decode cX7_readSeed 9 = .ok (.aload_n 0, 1) := by decide +kernel
theorem dX7_readSeed_10 : decode cX7_readSeed 10 = .ok (.getfield 7, 3) := by decide +kernel
theorem dX7_readSeed_13 : decode cX7_readSeed 13 = .ok (.iconst 1, 1) := by decide +kernel
theorem dX7_readSeed_14 : decode cX7_readSeed 14 = .ok (.iaload, 1) := by decide +kernel
theorem dX7_readSeed_15 : decode cX7_readSeed 15 = .ok (.ifCond .ne 7, 3) := by decide +kernel
theorem dX7_readSeed_18 : decode cX7_readSeed 18 = .ok (.iconst 1, 1) := by decide +kernel
theorem dX7_readSeed_19 : decode cX7_readSeed 19 = .ok (.goto 4, 3) := by decide +kernel
theorem dX7_readSeed_22 : decode cX7_readSeed 22 = .ok (.iconst 0, 1) := by decide +kernel
theorem dX7_readSeed_23 : decode cX7_readSeed 23 = .ok (.istore_n 1, 1) := by decide +kernel
theorem dX7_readSeed_24 : decode cX7_readSeed 24 = .ok (.aload_n 0, 1) := by decide +kernel
theorem dX7_readSeed_25 : decode cX7_readSeed 25 = .ok (.dup, 1) := by decide +kernel
theorem dX7_readSeed_26 : decode cX7_readSeed 26 = .ok (.getfield 184, 3) := by decide +kernel
theorem dX7_readSeed_29 : decode cX7_readSeed 29 = .ok (.iconst 1, 1) := by decide +kernel
theorem dX7_readSeed_30 : decode cX7_readSeed 30 = .ok (.ior, 1) := by decide +kernel
theorem dX7_readSeed_31 : decode cX7_readSeed 31 = .ok (.putfield 184, 3) := by decide +kernel
theorem dX7_readSeed_34 : decode cX7_readSeed 34 = .ok (.aload_n 0, 1) := by decide +kernel
theorem dX7_readSeed_35 : decode cX7_readSeed 35 = .ok (.iload_n 1, 1) := by decide +kernel
theorem dX7_readSeed_36 : decode cX7_readSeed 36 = .ok (.invokevirtual 187, 3) := by decide +kernel
theorem dX7_readSeed_39 : decode cX7_readSeed 39 = .ok (.ifCond .eq 20, 3) := by decide +kernel
theorem dX7_readSeed_42 : decode cX7_readSeed 42 = .ok (.aload_n 0, 1) := by decide +kernel
theorem dX7_readSeed_43 : decode cX7_readSeed 43 = .ok (.bipush 11, 2) := by decide +kernel
theorem dX7_readSeed_45 : decode cX7_readSeed 45 = .ok (.iconst 0, 1) := by decide +kernel
theorem dX7_readSeed_46 : decode cX7_readSeed 46 = .ok (.sipush 999, 3) := by decide +kernel
theorem dX7_readSeed_49 : decode cX7_readSeed 49 = .ok (.invokevirtual 230, 3) := by decide +kernel
theorem dX7_readSeed_52 : decode cX7_readSeed 52 = .ok (.ifCond .eq 7, 3) := by decide +kernel
theorem dX7_readSeed_55 : decode cX7_readSeed 55 = .ok (.iconst 1, 1) := by decide +kernel
theorem dX7_readSeed_56 : decode cX7_readSeed 56 = .ok (.goto 4, 3) := by decide +kernel
theorem dX7_readSeed_59 : decode cX7_readSeed 59 = .ok (.iconst 0, 1) := by decide +kernel
theorem dX7_readSeed_60 : decode cX7_readSeed 60 = .ok (.ireturn, 1) := by decide +kernel
theorem dX7_readStatement_0 : decode cX7_readStatement 0 = .ok (.aload_n 0, 1) := by decide +kernel
theorem dX7_readStatement_1 : decode cX7_readStatement 1 = .ok (.ldc 191, 2) := by decide +kernel
theorem dX7_readStatement_3 : decode cX7_readStatement 3 = .ok (.invokevirtual 193, 3) := by decide +kernel
theorem dX7_readStatement_6 : decode cX7_readStatement 6 = .ok (.ifCond .eq 8, 3) := by decide +kernel
theorem dX7_readStatement_9 : decode cX7_readStatement 9 = .ok (.aload_n 0, 1) := by decide +kernel
theorem dX7_readStatement_10 : decode cX7_readStatement 10 = .ok (.invokevirtual 248, 3) := by decide +kernel
theorem dX7_readStatement_13 : decode cX7_readStatement 13 = .ok (.ireturn, 1) := by decide +kernel
theorem dX7_readStatement_14 : decode cX7_readStatement 14 = .ok (.aload_n 0, 1) := by decide +kernel
theorem dX7_readStatement_15 : decode cX7_readStatement 15 = .ok (.ldc 197, 2) := by decide +kernel
theorem dX7_readStatement_17 : decode cX7_readStatement 17 = .ok (.invokevirtual 193, 3) := by decide +kernel
theorem dX7_readStatement_20 : decode cX7_readStatement 20 = .ok (.ifCond .eq 8, 3) := by decide +kernel
theorem dX7_readStatement_23 : decode cX7_readStatement 23 = .ok (.aload_n 0, 1) := by decide +kernel
theorem dX7_readStatement_24 : decode cX7_readStatement 24 = .ok (.invokevirtual 251, 3) := by decide +kernel
theorem dX7_readStatement_27 : decode cX7_readStatement 27 = .ok (.ireturn, 1) := by decide +kernel
theorem dX7_readStatement_28 : decode cX7_readStatement 28 = .ok (.aload_n 0, 1) := by decide +kernel
theorem dX7_readStatement_29 : decode cX7_readStatement 29 = .ok (.ldc 199, 2) := by decide +kernel
theorem dX7_readStatement_31 : decode cX7_readStatement 31 = .ok (.invokevirtual 193, 3) := by decide +kernel
theorem dX7_readStatement_34 : decode cX7_readStatement 34 = .ok (.ifCond .eq 8, 3) := by decide +kernel
theorem dX7_readStatement_37 : decode cX7_readStatement 37 = .ok (.aload_n 0, 1) := by decide +kernel
theorem dX7_readStatement_38 : decode cX7_readStatement 38 = .ok (.invokevirtual 254, 3) := by decide +kernel
theorem dX7_readStatement_41 : decode cX7_readStatement 41 = .ok (.ireturn, 1) := by decide +kernel
theorem dX7_readStatement_42 : decode cX7_readStatement 42 = .ok (.aload_n 0, 1) := by decide +kernel
theorem dX7_readStatement_43 : decode cX7_readStatement 43 = .ok (.ldc 201, 2) := by decide +kernel
theorem dX7_readStatement_45 : decode cX7_readStatement 45 = .ok (.invokevirtual 193, 3) := by decide +kernel
theorem dX7_readStatement_48 : decode cX7_readStatement 48 = .ok (.ifCond .eq 8, 3) := by decide +kernel
theorem dX7_readStatement_51 : decode cX7_readStatement 51 = .ok (.aload_n 0, 1) := by decide +kernel
theorem dX7_readStatement_52 : decode cX7_readStatement 52 = .ok (.invokevirtual 257, 3) := by decide +kernel
theorem dX7_readStatement_55 : decode cX7_readStatement 55 = .ok (.ireturn, 1) := by decide +kernel
theorem dX7_readStatement_56 : decode cX7_readStatement 56 = .ok (.aload_n 0, 1) := by decide +kernel
theorem dX7_readStatement_57 : decode cX7_readStatement 57 = .ok (.ldc 203, 2) := by decide +kernel
theorem dX7_readStatement_59 : decode cX7_readStatement 59 = .ok (.invokevirtual 193, 3) := by decide +kernel
theorem dX7_readStatement_62 : decode cX7_readStatement 62 = .ok (.ifCond .eq 8, 3) := by decide +kernel
theorem dX7_readStatement_65 : decode cX7_readStatement 65 = .ok (.aload_n 0, 1) := by decide +kernel
theorem dX7_readStatement_66 : decode cX7_readStatement 66 = .ok (.invokevirtual 260, 3) := by decide +kernel
theorem dX7_readStatement_69 : decode cX7_readStatement 69 = .ok (.ireturn, 1) := by decide +kernel
theorem dX7_readStatement_70 : decode cX7_readStatement 70 = .ok (.aload_n 0, 1) := by decide +kernel
theorem dX7_readStatement_71 : decode cX7_readStatement 71 = .ok (.ldc 205, 2) := by decide +kernel
theorem dX7_readStatement_73 : decode cX7_readStatement 73 = .ok (.invokevirtual 193, 3) := by decide +kernel
theorem dX7_readStatement_76 : decode cX7_readStatement 76 = .ok (.ifCond .eq 29, 3) := by decide +kernel
theorem dX7_readStatement_79 : decode cX7_readStatement 79 = .ok (.aload_n 0, 1) := by decide +kernel
theorem dX7_readStatement_80 : decode cX7_readStatement 80 = .ok (.iconst 2, 1) := by decide +kernel
theorem dX7_readStatement_81 : decode cX7_readStatement 81 = .ok (.invokevirtual 263, 3) := by decide +kernel
theorem dX7_readStatement_84 : decode cX7_readStatement 84 = .ok (.ifCond .eq 19, 3) := by decide +kernel
theorem dX7_readStatement_87 : decode cX7_readStatement 87 = .ok (.aload_n 0, 1) := by decide +kernel
theorem dX7_readStatement_88 : decode cX7_readStatement 88 = .ok (.bipush 6, 2) := by decide +kernel
theorem dX7_readStatement_90 : decode cX7_readStatement 90 = .ok (.iconst 0, 1) := by decide +kernel
theorem dX7_readStatement_91 : decode cX7_readStatement 91 = .ok (.bipush 9, 2) := by decide +kernel
theorem dX7_readStatement_93 : decode cX7_readStatement 93 = .ok (.invokevirtual 230, 3) := by decide +kernel
theorem dX7_readStatement_96 : decode cX7_readStatement 96 = .ok (.ifCond .eq 7, 3) := by decide +kernel
theorem dX7_readStatement_99 : decode cX7_readStatement 99 = .ok (.iconst 1, 1) := by decide +kernel
theorem dX7_readStatement_100 : decode cX7_readStatement 100 = .ok (.goto 4, 3) := by decide +kernel
theorem dX7_readStatement_103 : decode cX7_readStatement 103 = .ok (.iconst 0, 1) := by decide +kernel
theorem dX7_readStatement_104 : decode cX7_readStatement 104 = .ok (.ireturn, 1) := by decide +kernel
theorem dX7_readStatement_105 : decode cX7_readStatement 105 = .ok (.aload_n 0, 1) := by decide +kernel
theorem dX7_readStatement_106 : decode cX7_readStatement 106 = .ok (.ldc 207, 2) := by decide +kernel
theorem dX7_readStatement_108 : decode cX7_readStatement 108 = .ok (.invokevirtual 193, 3) := by decide +kernel
theorem dX7_readStatement_111 : decode cX7_readStatement 111 = .ok (.ifCond .eq 30, 3) := by decide +kernel
theorem dX7_readStatement_114 : decode cX7_readStatement 114 = .ok (.aload_n 0, 1) := by decide +kernel
theorem dX7_readStatement_115 : decode cX7_readStatement 115 = .ok (.iconst 4, 1) := by decide +kernel
theorem dX7_readStatement_116 : decode cX7_readStatement 116 = .ok (.invokevirtual 263, 3) := by decide +kernel
theorem dX7_readStatement_119 : decode cX7_readStatement 119 = .ok (.ifCond .eq 18, 3) := by decide +kernel
theorem dX7_readStatement_122 : decode cX7_readStatement 122 = .ok (.aload_n 0, 1) := by decide +kernel
theorem dX7_readStatement_123 : decode cX7_readStatement 123 = .ok (.bipush 7, 2) := by decide +kernel
theorem dX7_readStatement_125 : decode cX7_readStatement 125 = .ok (.iconst 0, 1) := by decide +kernel
theorem dX7_readStatement_126 : decode cX7_readStatement 126 = .ok (.iconst 1, 1) := by decide +kernel
theorem dX7_readStatement_127 : decode cX7_readStatement 127 = .ok (.invokevirtual 230, 3) := by decide +kernel
theorem dX7_readStatement_130 : decode cX7_readStatement 130 = .ok (.ifCond .eq 7, 3) := by decide +kernel
theorem dX7_readStatement_133 : decode cX7_readStatement 133 = .ok (.iconst 1, 1) := by decide +kernel
theorem dX7_readStatement_134 : decode cX7_readStatement 134 = .ok (.goto 12, 3) := by decide +kernel
theorem dX7_readStatement_137 : decode cX7_readStatement 137 = .ok (.iconst 0, 1) := by decide +kernel
theorem dX7_readStatement_138 : decode cX7_readStatement 138 = .ok (.goto 8, 3) := by decide +kernel
theorem dX7_readStatement_141 : decode cX7_readStatement 141 = .ok (.aload_n 0, 1) := by decide +kernel
theorem dX7_readStatement_142 : decode cX7_readStatement 142 = .ok (.iconst 1, 1) := by decide +kernel
theorem dX7_readStatement_143 : decode cX7_readStatement 143 = .ok (.invokevirtual 178, 3) := by decide +kernel
theorem dX7_readStatement_146 : decode cX7_readStatement 146 = .ok (.ireturn, 1) := by decide +kernel
theorem dX7_readText_0 : decode cX7_readText 0 = .ok (.aload_n 0, 1) := by decide +kernel
theorem dX7_readText_1 : decode cX7_readText 1 = .ok (.getfield 157, 3) := by decide +kernel
theorem dX7_readText_4 : decode cX7_readText 4 = .ok (.ifCond .eq 33, 3) := by decide +kernel
theorem dX7_readText_7 : decode cX7_readText 7 = .ok (.aload_n 0, 1) := by decide +kernel
theorem dX7_readText_8 : decode cX7_readText 8 = .ok (.invokevirtual 266, 3) := by decide +kernel
theorem dX7_readText_11 : decode cX7_readText 11 = .ok (.ifCond .ne 5, 3) := by decide +kernel
theorem dX7_readText_14 : decode cX7_readText 14 = .ok (.iconst 0, 1) := by decide +kernel
theorem dX7_readText_15 : decode cX7_readText 15 = .ok (.ireturn, 1) := by decide +kernel
theorem dX7_readText_16 : decode cX7_readText 16 = .ok (.aload_n 0, 1) := by decide +kernel
theorem dX7_readText_17 : decode cX7_readText 17 = .ok (.getfield 157, 3) := by decide +kernel
theorem dX7_readText_20 : decode cX7_readText 20 = .ok (.iconst 3, 1) := by decide +kernel
theorem dX7_readText_21 : decode cX7_readText 21 = .ok (.if_icmp .eq 9, 3) := by decide +kernel
theorem dX7_readText_24 : decode cX7_readText 24 = .ok (.aload_n 0, 1) := by decide +kernel
theorem dX7_readText_25 : decode cX7_readText 25 = .ok (.iconst 1, 1) := by decide +kernel
theorem dX7_readText_26 : decode cX7_readText 26 = .ok (.invokevirtual 178, 3) := by decide +kernel
theorem dX7_readText_29 : decode cX7_readText 29 = .ok (.ireturn, 1) := by decide +kernel
theorem dX7_readText_30 : decode cX7_readText 30 = .ok (.aload_n 0, 1) := by decide +kernel
theorem dX7_readText_31 : decode cX7_readText 31 = .ok (.invokevirtual 181, 3) := by decide +kernel
theorem dX7_readText_34 : decode cX7_readText 34 = .ok (.goto (-34), 3) := by decide +kernel
theorem dX7_readText_37 : decode cX7_readText 37 = .ok (.iconst 1, 1) := by decide +kernel
theorem dX7_readText_38 : decode cX7_readText 38 = .ok (.ireturn, 1) := by decide +kernel
theorem dX7_loadOffice_0 : decode cX7_loadOffice 0 = .ok (.aload_n 0, 1) := by decide +kernel
theorem dX7_loadOffice_1 : decode cX7_loadOffice 1 = .ok (.iconst 0, 1) := by decide +kernel
theorem dX7_loadOffice_2 : decode cX7_loadOffice 2 = .ok (.putfield 56, 3) := by decide +kernel
theorem dX7_loadOffice_5 : decode cX7_loadOffice 5 = .ok (.aload_n 0, 1) := by decide +kernel
theorem dX7_loadOffice_6 : decode cX7_loadOffice 6 = .ok (.getfield 7, 3) := by decide +kernel
theorem dX7_loadOffice_9 : decode cX7_loadOffice 9 = .ok (.iconst 0, 1) := by decide +kernel
theorem dX7_loadOffice_10 : decode cX7_loadOffice 10 = .ok (.aload_n 0, 1) := by decide +kernel
theorem dX7_loadOffice_11 : decode cX7_loadOffice 11 = .ok (.getfield 13, 3) := by decide +kernel
theorem dX7_loadOffice_14 : decode cX7_loadOffice 14 = .ok (.iconst 0, 1) := by decide +kernel
theorem dX7_loadOffice_15 : decode cX7_loadOffice 15 = .ok (.sipush 764, 3) := by decide +kernel
theorem dX7_loadOffice_18 : decode cX7_loadOffice 18 = .ok (.invokestatic 62, 3) := by decide +kernel
theorem dX7_loadOffice_21 : decode cX7_loadOffice 21 = .ok (.aload_n 0, 1) := by decide +kernel
theorem dX7_loadOffice_22 : decode cX7_loadOffice 22 = .ok (.getfield 25, 3) := by decide +kernel
theorem dX7_loadOffice_25 : decode cX7_loadOffice 25 = .ok (.iconst 0, 1) := by decide +kernel
theorem dX7_loadOffice_26 : decode cX7_loadOffice 26 = .ok (.aload_n 0, 1) := by decide +kernel
theorem dX7_loadOffice_27 : decode cX7_loadOffice 27 = .ok (.getfield 28, 3) := by decide +kernel
theorem dX7_loadOffice_30 : decode cX7_loadOffice 30 = .ok (.iconst 0, 1) := by decide +kernel
theorem dX7_loadOffice_31 : decode cX7_loadOffice 31 = .ok (.bipush 48, 2) := by decide +kernel
theorem dX7_loadOffice_33 : decode cX7_loadOffice 33 = .ok (.invokestatic 62, 3) := by decide +kernel
theorem dX7_loadOffice_36 : decode cX7_loadOffice 36 = .ok (.aload_n 0, 1) := by decide +kernel
theorem dX7_loadOffice_37 : decode cX7_loadOffice 37 = .ok (.invokevirtual 53, 3) := by decide +kernel
theorem dX7_loadOffice_40 : decode cX7_loadOffice 40 = .ok (.aload_n 0, 1) := by decide +kernel
theorem dX7_loadOffice_41 : decode cX7_loadOffice 41 = .ok (.iconst 0, 1) := by decide +kernel
theorem dX7_loadOffice_42 : decode cX7_loadOffice 42 = .ok (.putfield 160, 3) := by decide +kernel
theorem dX7_loadOffice_45 : decode cX7_loadOffice 45 = .ok (.aload_n 0, 1) := by decide +kernel
theorem dX7_loadOffice_46 : decode cX7_loadOffice 46 = .ok (.iconst (-1), 1) := by decide +kernel
theorem dX7_loadOffice_47 : decode cX7_loadOffice 47 = .ok (.putfield 163, 3) := by decide +kernel
theorem dX7_loadOffice_50 : decode cX7_loadOffice 50 = .ok (.aload_n 0, 1) := by decide +kernel
theorem dX7_loadOffice_51 : decode cX7_loadOffice 51 = .ok (.iconst 0, 1) := by decide +kernel
theorem dX7_loadOffice_52 : decode cX7_loadOffice 52 = .ok (.putfield 145, 3) := by decide +kernel
theorem dX7_loadOffice_55 : decode cX7_loadOffice 55 = .ok (.aload_n 0, 1) := by decide +kernel
theorem dX7_loadOffice_56 : decode cX7_loadOffice 56 = .ok (.iconst 0, 1) := by decide +kernel
theorem dX7_loadOffice_57 : decode cX7_loadOffice 57 = .ok (.putfield 184, 3) := by decide +kernel
theorem dX7_loadOffice_60 : decode cX7_loadOffice 60 = .ok (.aload_n 0, 1) := by decide +kernel
theorem dX7_loadOffice_61 : decode cX7_loadOffice 61 = .ok (.invokevirtual 181, 3) := by decide +kernel
theorem dX7_loadOffice_64 : decode cX7_loadOffice 64 = .ok (.aload_n 0, 1) := by decide +kernel
theorem dX7_loadOffice_65 : decode cX7_loadOffice 65 = .ok (.invokevirtual 269, 3) := by decide +kernel
theorem dX7_loadOffice_68 : decode cX7_loadOffice 68 = .ok (.istore_n 1, 1) := by decide +kernel
theorem dX7_loadOffice_69 : decode cX7_loadOffice 69 = .ok (.aload_n 0, 1) := by decide +kernel
theorem dX7_loadOffice_70 : decode cX7_loadOffice 70 = .ok (.iconst 0, 1) := by decide +kernel
theorem dX7_loadOffice_71 : decode cX7_loadOffice 71 = .ok (.putfield 139, 3) := by decide +kernel
theorem dX7_loadOffice_74 : decode cX7_loadOffice 74 = .ok (.aload_n 0, 1) := by decide +kernel
theorem dX7_loadOffice_75 : decode cX7_loadOffice 75 = .ok (.aload_n 0, 1) := by decide +kernel
theorem dX7_loadOffice_76 : decode cX7_loadOffice 76 = .ok (.getfield 160, 3) := by decide +kernel
theorem dX7_loadOffice_79 : decode cX7_loadOffice 79 = .ok (.putfield 272, 3) := by decide +kernel
theorem dX7_loadOffice_82 : decode cX7_loadOffice 82 = .ok (.aload_n 0, 1) := by decide +kernel
theorem dX7_loadOffice_83 : decode cX7_loadOffice 83 = .ok (.aload_n 0, 1) := by decide +kernel
theorem dX7_loadOffice_84 : decode cX7_loadOffice 84 = .ok (.getfield 163, 3) := by decide +kernel
theorem dX7_loadOffice_87 : decode cX7_loadOffice 87 = .ok (.putfield 37, 3) := by decide +kernel
theorem dX7_loadOffice_90 : decode cX7_loadOffice 90 = .ok (.iload_n 1, 1) := by decide +kernel
theorem dX7_loadOffice_91 : decode cX7_loadOffice 91 = .ok (.ifCond .ne 36, 3) := by decide +kernel
theorem dX7_loadOffice_94 : decode cX7_loadOffice 94 = .ok (.aload_n 0, 1) := by decide +kernel
theorem dX7_loadOffice_95 : decode cX7_loadOffice 95 = .ok (.getfield 13, 3) := by decide +kernel
theorem dX7_loadOffice_98 : decode cX7_loadOffice 98 = .ok (.iconst 0, 1) := by decide +kernel
theorem dX7_loadOffice_99 : decode cX7_loadOffice 99 = .ok (.aload_n 0, 1) := by decide +kernel
theorem dX7_loadOffice_100 : decode cX7_loadOffice 100 = .ok (.getfield 7, 3) := by decide +kernel
theorem dX7_loadOffice_103 : decode cX7_loadOffice 103 = .ok (.iconst 0, 1) := by decide +kernel
theorem dX7_loadOffice_104 : decode cX7_loadOffice 104 = .ok (.sipush 764, 3) := by decide +kernel
theorem dX7_loadOffice_107 : decode cX7_loadOffice 107 = .ok (.invokestatic 62, 3) := by decide +kernel
theorem dX7_loadOffice_110 : decode cX7_loadOffice 110 = .ok (.aload_n 0, 1) := by decide +kernel
theorem dX7_loadOffice_111 : decode cX7_loadOffice 111 = .ok (.getfield 28, 3) := by decide +kernel
theorem dX7_loadOffice_114 : decode cX7_loadOffice 114 = .ok (.iconst 0, 1) := by decide +kernel
theorem dX7_loadOffice_115 : decode cX7_loadOffice 115 = .ok (.aload_n 0, 1) := by decide +kernel
theorem dX7_loadOffice_116 : decode cX7_loadOffice 116 = .ok (.getfield 25, 3) := by decide +kernel
theorem dX7_loadOffice_119 : decode cX7_loadOffice 119 = .ok (.iconst 0, 1) := by decide +kernel
theorem dX7_loadOffice_120 : decode cX7_loadOffice 120 = .ok (.bipush 48, 2) := by decide +kernel
theorem dX7_loadOffice_122 : decode cX7_loadOffice 122 = .ok (.invokestatic 62, 3) := by decide +kernel
theorem dX7_loadOffice_125 : decode cX7_loadOffice 125 = .ok (.iconst (-1), 1) := by decide +kernel
theorem dX7_loadOffice_126 : decode cX7_loadOffice 126 = .ok (.ireturn, 1) := by decide +kernel
theorem dX7_loadOffice_127 : decode cX7_loadOffice 127 = .ok (.aload_n 0, 1) := by decide +kernel
theorem dX7_loadOffice_128 : decode cX7_loadOffice 128 = .ok (.iconst 0, 1) := by decide +kernel
theorem dX7_loadOffice_129 : decode cX7_loadOffice 129 = .ok (.putfield 59, 3) := by decide +kernel
theorem dX7_loadOffice_132 : decode cX7_loadOffice 132 = .ok (.aload_n 0, 1) := by decide +kernel
theorem dX7_loadOffice_133 : decode cX7_loadOffice 133 = .ok (.iconst 0, 1) := by decide +kernel
theorem dX7_loadOffice_134 : decode cX7_loadOffice 134 = .ok (.putfield 275, 3) := by decide +kernel
theorem dX7_loadOffice_137 : decode cX7_loadOffice 137 = .ok (.aload_n 0, 1) := by decide +kernel
theorem dX7_loadOffice_138 : decode cX7_loadOffice 138 = .ok (.getfield 7, 3) := by decide +kernel
theorem dX7_loadOffice_141 : decode cX7_loadOffice 141 = .ok (.iconst 1, 1) := by decide +kernel
theorem dX7_loadOffice_142 : decode cX7_loadOffice 142 = .ok (.iaload, 1) := by decide +kernel
theorem dX7_loadOffice_143 : decode cX7_loadOffice 143 = .ok (.ireturn, 1) := by decide +kernel
theorem dX7_errorCode_0 : decode cX7_errorCode 0 = .ok (.aload_n 0, 1) := by decide +kernel
theorem dX7_errorCode_1 : decode cX7_errorCode 1 = .ok (.iconst 0, 1) := by decide +kernel
theorem dX7_errorCode_2 : decode cX7_errorCode 2 = .ok (.putfield 56, 3) := by decide +kernel
theorem dX7_errorCode_5 : decode cX7_errorCode 5 = .ok (.aload_n 0, 1) := by decide +kernel
theorem dX7_errorCode_6 : decode cX7_errorCode 6 = .ok (.getfield 272, 3) := by decide +kernel
theorem dX7_errorCode_9 : decode cX7_errorCode 9 = .ok (.ireturn, 1) := by decide +kernel
theorem dX7_errorOffset_0 : decode cX7_errorOffset 0 = .ok (.aload_n 0, 1) := by decide +kernel
theorem dX7_errorOffset_1 : decode cX7_errorOffset 1 = .ok (.iconst 0, 1) := by decide +kernel
theorem dX7_errorOffset_2 : decode cX7_errorOffset 2 = .ok (.putfield 56, 3) := by decide +kernel
theorem dX7_errorOffset_5 : decode cX7_errorOffset 5 = .ok (.aload_n 0, 1) := by decide +kernel
theorem dX7_errorOffset_6 : decode cX7_errorOffset 6 = .ok (.getfield 37, 3) := by decide +kernel
theorem dX7_errorOffset_9 : decode cX7_errorOffset 9 = .ok (.ireturn, 1) := by decide +kernel
theorem dX7_childrenWith_0 : decode cX7_childrenWith 0 = .ok (.iconst 0, 1) := by decide +kernel
theorem dX7_childrenWith_1 : decode cX7_childrenWith 1 = .ok (.istore_n 3, 1) := by decide +kernel
theorem dX7_childrenWith_2 : decode cX7_childrenWith 2 = .ok (.iconst 0, 1) := by decide +kernel
theorem dX7_childrenWith_3 : decode cX7_childrenWith 3 = .ok (.istore 4, 2) := by decide +kernel
theorem dX7_childrenWith_5 : decode cX7_childrenWith 5 = .ok (.iload 4, 2) := by decide +kernel
theorem dX7_childrenWith_7 : decode cX7_childrenWith 7 = .ok (.aload_n 0, 1) := by decide +kernel
theorem dX7_childrenWith_8 : decode cX7_childrenWith 8 = .ok (.getfield 7, 3) := by decide +kernel
theorem dX7_childrenWith_11 : decode cX7_childrenWith 11 = .ok (.iconst 1, 1) := by decide +kernel
theorem dX7_childrenWith_12 : decode cX7_childrenWith 12 = .ok (.iaload, 1) := by decide +kernel
theorem dX7_childrenWith_13 : decode cX7_childrenWith 13 = .ok (.if_icmp .ge 30, 3) := by decide +kernel
theorem dX7_childrenWith_16 : decode cX7_childrenWith 16 = .ok (.iload_n 3, 1) := by decide +kernel
theorem dX7_childrenWith_17 : decode cX7_childrenWith 17 = .ok (.aload_n 0, 1) := by decide +kernel
theorem dX7_childrenWith_18 : decode cX7_childrenWith 18 = .ok (.getfield 7, 3) := by decide +kernel
theorem dX7_childrenWith_21 : decode cX7_childrenWith 21 = .ok (.iload_n 1, 1) := by decide +kernel
theorem dX7_childrenWith_22 : decode cX7_childrenWith 22 = .ok (.iload 4, 2) := by decide +kernel
theorem dX7_childrenWith_24 : decode cX7_childrenWith 24 = .ok (.iadd, 1) := by decide +kernel
theorem dX7_childrenWith_25 : decode cX7_childrenWith 25 = .ok (.iaload, 1) := by decide +kernel
theorem dX7_childrenWith_26 : decode cX7_childrenWith 26 = .ok (.iload_n 2, 1) := by decide +kernel
theorem dX7_childrenWith_27 : decode cX7_childrenWith 27 = .ok (.if_icmp .ne 7, 3) := by decide +kernel
theorem dX7_childrenWith_30 : decode cX7_childrenWith 30 = .ok (.iconst 1, 1) := by decide +kernel
theorem dX7_childrenWith_31 : decode cX7_childrenWith 31 = .ok (.goto 4, 3) := by decide +kernel
theorem dX7_childrenWith_34 : decode cX7_childrenWith 34 = .ok (.iconst 0, 1) := by decide +kernel
theorem dX7_childrenWith_35 : decode cX7_childrenWith 35 = .ok (.iadd, 1) := by decide +kernel
theorem dX7_childrenWith_36 : decode cX7_childrenWith 36 = .ok (.istore_n 3, 1) := by decide +kernel
theorem dX7_childrenWith_37 : decode cX7_childrenWith 37 = .ok (.iinc 4 1, 3) := by decide +kernel
theorem dX7_childrenWith_40 : decode cX7_childrenWith 40 = .ok (.goto (-35), 3) := by decide +kernel
theorem dX7_childrenWith_43 : decode cX7_childrenWith 43 = .ok (.iload_n 3, 1) := by decide +kernel
theorem dX7_childrenWith_44 : decode cX7_childrenWith 44 = .ok (.ireturn, 1) := by decide +kernel
theorem dX7_count_0 : decode cX7_count 0 = .ok (.aload_n 0, 1) := by decide +kernel
theorem dX7_count_1 : decode cX7_count 1 = .ok (.iconst 0, 1) := by decide +kernel
theorem dX7_count_2 : decode cX7_count 2 = .ok (.putfield 56, 3) := by decide +kernel
theorem dX7_count_5 : decode cX7_count 5 = .ok (.aload_n 0, 1) := by decide +kernel
theorem dX7_count_6 : decode cX7_count 6 = .ok (.iload_n 1, 1) := by decide +kernel
theorem dX7_count_7 : decode cX7_count 7 = .ok (.iconst 0, 1) := by decide +kernel
theorem dX7_count_8 : decode cX7_count 8 = .ok (.bipush 11, 2) := by decide +kernel
theorem dX7_count_10 : decode cX7_count 10 = .ok (.invokestatic 66, 3) := by decide +kernel
theorem dX7_count_13 : decode cX7_count 13 = .ok (.ifCond .ne 7, 3) := by decide +kernel
theorem dX7_count_16 : decode cX7_count 16 = .ok (.iconst 1, 1) := by decide +kernel
theorem dX7_count_17 : decode cX7_count 17 = .ok (.goto 4, 3) := by decide +kernel
theorem dX7_count_20 : decode cX7_count 20 = .ok (.iconst 0, 1) := by decide +kernel
theorem dX7_count_21 : decode cX7_count 21 = .ok (.iconst 1, 1) := by decide +kernel
theorem dX7_count_22 : decode cX7_count 22 = .ok (.invokevirtual 279, 3) := by decide +kernel
theorem dX7_count_25 : decode cX7_count 25 = .ok (.ifCond .eq 5, 3) := by decide +kernel
theorem dX7_count_28 : decode cX7_count 28 = .ok (.iconst 0, 1) := by decide +kernel
theorem dX7_count_29 : decode cX7_count 29 = .ok (.ireturn, 1) := by decide +kernel
theorem dX7_count_30 : decode cX7_count 30 = .ok (.iload_n 1, 1) := by decide +kernel
theorem dX7_count_31 : decode cX7_count 31 = .ok (.tableswitch 88 3 11 #[49, 58, 74, 88, 88, 88, 88, 88, 83], 49) := by decide +kernel
theorem dX7_count_80 : decode cX7_count 80 = .ok (.aload_n 0, 1) := by decide +kernel
theorem dX7_count_81 : decode cX7_count 81 = .ok (.sipush 404, 3) := by decide +kernel
theorem dX7_count_84 : decode cX7_count 84 = .ok (.iconst 1, 1) := by decide +kernel
theorem dX7_count_85 : decode cX7_count 85 = .ok (.invokevirtual 283, 3) := by decide +kernel
theorem dX7_count_88 : decode cX7_count 88 = .ok (.ireturn, 1) := by decide +kernel
theorem dX7_count_89 : decode cX7_count 89 = .ok (.aload_n 0, 1) := by decide +kernel
theorem dX7_count_90 : decode cX7_count 90 = .ok (.getfield 7, 3) := by decide +kernel
theorem dX7_count_93 : decode cX7_count 93 = .ok (.iconst 1, 1) := by decide +kernel
theorem dX7_count_94 : decode cX7_count 94 = .ok (.iaload, 1) := by decide +kernel
theorem dX7_count_95 : decode cX7_count 95 = .ok (.aload_n 0, 1) := by decide +kernel
theorem dX7_count_96 : decode cX7_count 96 = .ok (.sipush 484, 3) := by decide +kernel
theorem dX7_count_99 : decode cX7_count 99 = .ok (.iconst (-1), 1) := by decide +kernel
theorem dX7_count_100 : decode cX7_count 100 = .ok (.invokevirtual 283, 3) := by decide +kernel
theorem dX7_count_103 : decode cX7_count 103 = .ok (.isub, 1) := by decide +kernel
theorem dX7_count_104 : decode cX7_count 104 = .ok (.ireturn, 1) := by decide +kernel
theorem dX7_count_105 : decode cX7_count 105 = .ok (.aload_n 0, 1) := by decide +kernel
theorem dX7_count_106 : decode cX7_count 106 = .ok (.sipush 364, 3) := by decide +kernel
theorem dX7_count_109 : decode cX7_count 109 = .ok (.iconst 1, 1) := by decide +kernel
theorem dX7_count_110 : decode cX7_count 110 = .ok (.invokevirtual 283, 3) := by decide +kernel
theorem dX7_count_113 : decode cX7_count 113 = .ok (.ireturn, 1) := by decide +kernel
theorem dX7_count_114 : decode cX7_count 114 = .ok (.aload_n 0, 1) := by decide +kernel
theorem dX7_count_115 : decode cX7_count 115 = .ok (.getfield 59, 3) := by decide +kernel
theorem dX7_count_118 : decode cX7_count 118 = .ok (.ireturn, 1) := by decide +kernel
theorem dX7_count_119 : decode cX7_count 119 = .ok (.aload_n 0, 1) := by decide +kernel
theorem dX7_count_120 : decode cX7_count 120 = .ok (.getfield 7, 3) := by decide +kernel
theorem dX7_count_123 : decode cX7_count 123 = .ok (.iload_n 1, 1) := by decide +kernel
theorem dX7_count_124 : decode cX7_count 124 = .ok (.iaload, 1) := by decide +kernel
theorem dX7_count_125 : decode cX7_count 125 = .ok (.ireturn, 1) := by decide +kernel
theorem dX7_noSchool_0 : decode cX7_noSchool 0 = .ok (.aload_n 0, 1) := by decide +kernel
theorem dX7_noSchool_1 : decode cX7_noSchool 1 = .ok (.iconst 0, 1) := by decide +kernel
theorem dX7_noSchool_2 : decode cX7_noSchool 2 = .ok (.putfield 56, 3) := by decide +kernel
theorem dX7_noSchool_5 : decode cX7_noSchool 5 = .ok (.aload_n 0, 1) := by decide +kernel
theorem dX7_noSchool_6 : decode cX7_noSchool 6 = .ok (.iload_n 1, 1) := by decide +kernel
theorem dX7_noSchool_7 : decode cX7_noSchool 7 = .ok (.iconst 0, 1) := by decide +kernel
theorem dX7_noSchool_8 : decode cX7_noSchool 8 = .ok (.aload_n 0, 1) := by decide +kernel
theorem dX7_noSchool_9 : decode cX7_noSchool 9 = .ok (.getfield 7, 3) := by decide +kernel
theorem dX7_noSchool_12 : decode cX7_noSchool 12 = .ok (.iconst 0, 1) := by decide +kernel
theorem dX7_noSchool_13 : decode cX7_noSchool 13 = .ok (.iaload, 1) := by decide +kernel
theorem dX7_noSchool_14 : decode cX7_noSchool 14 = .ok (.iconst 1, 1) := by decide +kernel
theorem dX7_noSchool_15 : decode cX7_noSchool 15 = .ok (.isub, 1) := by decide +kernel
theorem dX7_noSchool_16 : decode cX7_noSchool 16 = .ok (.invokestatic 66, 3) := by decide +kernel
theorem dX7_noSchool_19 : decode cX7_noSchool 19 = .ok (.ifCond .ne 7, 3) := by decide +kernel
theorem dX7_noSchool_22 : decode cX7_noSchool 22 = .ok (.iconst 1, 1) := by decide +kernel
theorem dX7_noSchool_23 : decode cX7_noSchool 23 = .ok (.goto 4, 3) := by decide +kernel
theorem dX7_noSchool_26 : decode cX7_noSchool 26 = .ok (.iconst 0, 1) := by decide +kernel
theorem dX7_noSchool_27 : decode cX7_noSchool 27 = .ok (.iconst 1, 1) := by decide +kernel
theorem dX7_noSchool_28 : decode cX7_noSchool 28 = .ok (.invokevirtual 279, 3) := by decide +kernel
theorem dX7_noSchool_31 : decode cX7_noSchool 31 = .ok (.ireturn, 1) := by decide +kernel
theorem dX7_noChild_0 : decode cX7_noChild 0 = .ok (.aload_n 0, 1) := by decide +kernel
theorem dX7_noChild_1 : decode cX7_noChild 1 = .ok (.iconst 0, 1) := by decide +kernel
theorem dX7_noChild_2 : decode cX7_noChild 2 = .ok (.putfield 56, 3) := by decide +kernel
theorem dX7_noChild_5 : decode cX7_noChild 5 = .ok (.aload_n 0, 1) := by decide +kernel
theorem dX7_noChild_6 : decode cX7_noChild 6 = .ok (.iload_n 1, 1) := by decide +kernel
theorem dX7_noChild_7 : decode cX7_noChild 7 = .ok (.iconst 0, 1) := by decide +kernel
theorem dX7_noChild_8 : decode cX7_noChild 8 = .ok (.aload_n 0, 1) := by decide +kernel
theorem dX7_noChild_9 : decode cX7_noChild 9 = .ok (.getfield 7, 3) := by decide +kernel
theorem dX7_noChild_12 : decode cX7_noChild 12 = .ok (.iconst 1, 1) := by decide +kernel
theorem dX7_noChild_13 : decode cX7_noChild 13 = .ok (.iaload, 1) := by decide +kernel
theorem dX7_noChild_14 : decode cX7_noChild 14 = .ok (.iconst 1, 1) := by decide +kernel
theorem dX7_noChild_15 : decode cX7_noChild 15 = .ok (.isub, 1) := by decide +kernel
theorem dX7_noChild_16 : decode cX7_noChild 16 = .ok (.invokestatic 66, 3) := by decide +kernel
theorem dX7_noChild_19 : decode cX7_noChild 19 = .ok (.ifCond .ne 7, 3) := by decide +kernel
theorem dX7_noChild_22 : decode cX7_noChild 22 = .ok (.iconst 1, 1) := by decide +kernel
theorem dX7_noChild_23 : decode cX7_noChild 23 = .ok (.goto 4, 3) := by decide +kernel
theorem dX7_noChild_26 : decode cX7_noChild 26 = .ok (.iconst 0, 1) := by decide +kernel
theorem dX7_noChild_27 : decode cX7_noChild 27 = .ok (.iconst 1, 1) := by decide +kernel
theorem dX7_noChild_28 : decode cX7_noChild 28 = .ok (.invokevirtual 279, 3) := by decide +kernel
theorem dX7_noChild_31 : decode cX7_noChild 31 = .ok (.ireturn, 1) := by decide +kernel
theorem dX7_noneOf_0 : decode cX7_noneOf 0 = .ok (.aload_n 0, 1) := by decide +kernel
theorem dX7_noneOf_1 : decode cX7_noneOf 1 = .ok (.iload_n 1, 1) := by decide +kernel
theorem dX7_noneOf_2 : decode cX7_noneOf 2 = .ok (.invokevirtual 286, 3) := by decide +kernel
theorem dX7_noneOf_5 : decode cX7_noneOf 5 = .ok (.ifCond .ne 11, 3) := by decide +kernel
theorem dX7_noneOf_8 : decode cX7_noneOf 8 = .ok (.aload_n 0, 1) := by decide +kernel
theorem dX7_noneOf_9 : decode cX7_noneOf 9 = .ok (.iload_n 2, 1) := by decide +kernel
theorem dX7_noneOf_10 : decode cX7_noneOf 10 = .ok (.invokevirtual 289, 3) := by decide +kernel
theorem dX7_noneOf_13 : decode cX7_noneOf 13 = .ok (.ifCond .eq 7, 3) := by decide +kernel
theorem dX7_noneOf_16 : decode cX7_noneOf 16 = .ok (.iconst 1, 1) := by decide +kernel
theorem dX7_noneOf_17 : decode cX7_noneOf 17 = .ok (.goto 4, 3) := by decide +kernel
theorem dX7_noneOf_20 : decode cX7_noneOf 20 = .ok (.iconst 0, 1) := by decide +kernel
theorem dX7_noneOf_21 : decode cX7_noneOf 21 = .ok (.ireturn, 1) := by decide +kernel
theorem dX7_pupilsAt_0 : decode cX7_pupilsAt 0 = .ok (.iconst 0, 1) := by decide +kernel
theorem dX7_pupilsAt_1 : decode cX7_pupilsAt 1 = .ok (.istore_n 2, 1) := by decide +kernel
theorem dX7_pupilsAt_2 : decode cX7_pupilsAt 2 = .ok (.iconst 0, 1) := by decide +kernel
theorem dX7_pupilsAt_3 : decode cX7_pupilsAt 3 = .ok (.istore_n 3, 1) := by decide +kernel
theorem dX7_pupilsAt_4 : decode cX7_pupilsAt 4 = .ok (.iload_n 3, 1) := by decide +kernel
theorem dX7_pupilsAt_5 : decode cX7_pupilsAt 5 = .ok (.aload_n 0, 1) := by decide +kernel
theorem dX7_pupilsAt_6 : decode cX7_pupilsAt 6 = .ok (.getfield 7, 3) := by decide +kernel
theorem dX7_pupilsAt_9 : decode cX7_pupilsAt 9 = .ok (.iconst 2, 1) := by decide +kernel
theorem dX7_pupilsAt_10 : decode cX7_pupilsAt 10 = .ok (.iaload, 1) := by decide +kernel
theorem dX7_pupilsAt_11 : decode cX7_pupilsAt 11 = .ok (.if_icmp .ge 35, 3) := by decide +kernel
theorem dX7_pupilsAt_14 : decode cX7_pupilsAt 14 = .ok (.iload_n 2, 1) := by decide +kernel
theorem dX7_pupilsAt_15 : decode cX7_pupilsAt 15 = .ok (.aload_n 0, 1) := by decide +kernel
theorem dX7_pupilsAt_16 : decode cX7_pupilsAt 16 = .ok (.getfield 7, 3) := by decide +kernel
theorem dX7_pupilsAt_19 : decode cX7_pupilsAt 19 = .ok (.sipush 724, 3) := by decide +kernel
theorem dX7_pupilsAt_22 : decode cX7_pupilsAt 22 = .ok (.iconst 2, 1) := by decide +kernel
theorem dX7_pupilsAt_23 : decode cX7_pupilsAt 23 = .ok (.iload_n 3, 1) := by decide +kernel
theorem dX7_pupilsAt_24 : decode cX7_pupilsAt 24 = .ok (.imul, 1) := by decide +kernel
theorem dX7_pupilsAt_25 : decode cX7_pupilsAt 25 = .ok (.iadd, 1) := by decide +kernel
theorem dX7_pupilsAt_26 : decode cX7_pupilsAt 26 = .ok (.iconst 1, 1) := by decide +kernel
theorem dX7_pupilsAt_27 : decode cX7_pupilsAt 27 = .ok (.iadd, 1) := by decide +kernel
theorem dX7_pupilsAt_28 : decode cX7_pupilsAt 28 = .ok (.iaload, 1) := by decide +kernel
theorem dX7_pupilsAt_29 : decode cX7_pupilsAt 29 = .ok (.iload_n 1, 1) := by decide +kernel
theorem dX7_pupilsAt_30 : decode cX7_pupilsAt 30 = .ok (.if_icmp .ne 7, 3) := by decide +kernel
theorem dX7_pupilsAt_33 : decode cX7_pupilsAt 33 = .ok (.iconst 1, 1) := by decide +kernel
theorem dX7_pupilsAt_34 : decode cX7_pupilsAt 34 = .ok (.goto 4, 3) := by decide +kernel
theorem dX7_pupilsAt_37 : decode cX7_pupilsAt 37 = .ok (.iconst 0, 1) := by decide +kernel
theorem dX7_pupilsAt_38 : decode cX7_pupilsAt 38 = .ok (.iadd, 1) := by decide +kernel
theorem dX7_pupilsAt_39 : decode cX7_pupilsAt 39 = .ok (.istore_n 2, 1) := by decide +kernel
theorem dX7_pupilsAt_40 : decode cX7_pupilsAt 40 = .ok (.iinc 3 1, 3) := by decide +kernel
theorem dX7_pupilsAt_43 : decode cX7_pupilsAt 43 = .ok (.goto (-39), 3) := by decide +kernel
theorem dX7_pupilsAt_46 : decode cX7_pupilsAt 46 = .ok (.iload_n 2, 1) := by decide +kernel
theorem dX7_pupilsAt_47 : decode cX7_pupilsAt 47 = .ok (.ireturn, 1) := by decide +kernel
theorem dX7_appealedAt_0 : decode cX7_appealedAt 0 = .ok (.iconst 0, 1) := by decide +kernel
theorem dX7_appealedAt_1 : decode cX7_appealedAt 1 = .ok (.istore_n 2, 1) := by decide +kernel
theorem dX7_appealedAt_2 : decode cX7_appealedAt 2 = .ok (.iconst 0, 1) := by decide +kernel
theorem dX7_appealedAt_3 : decode cX7_appealedAt 3 = .ok (.istore_n 3, 1) := by decide +kernel
theorem dX7_appealedAt_4 : decode cX7_appealedAt 4 = .ok (.iload_n 3, 1) := by decide +kernel
theorem dX7_appealedAt_5 : decode cX7_appealedAt 5 = .ok (.aload_n 0, 1) := by decide +kernel
theorem dX7_appealedAt_6 : decode cX7_appealedAt 6 = .ok (.getfield 7, 3) := by decide +kernel
theorem dX7_appealedAt_9 : decode cX7_appealedAt 9 = .ok (.iconst 1, 1) := by decide +kernel
theorem dX7_appealedAt_10 : decode cX7_appealedAt 10 = .ok (.iaload, 1) := by decide +kernel
theorem dX7_appealedAt_11 : decode cX7_appealedAt 11 = .ok (.if_icmp .ge 40, 3) := by decide +kernel
theorem dX7_appealedAt_14 : decode cX7_appealedAt 14 = .ok (.iload_n 2, 1) := by decide +kernel
theorem dX7_appealedAt_15 : decode cX7_appealedAt 15 = .ok (.aload_n 0, 1) := by decide +kernel
theorem dX7_appealedAt_16 : decode cX7_appealedAt 16 = .ok (.getfield 7, 3) := by decide +kernel
theorem dX7_appealedAt_19 : decode cX7_appealedAt 19 = .ok (.sipush 484, 3) := by decide +kernel
theorem dX7_appealedAt_22 : decode cX7_appealedAt 22 = .ok (.iload_n 3, 1) := by decide +kernel
theorem dX7_appealedAt_23 : decode cX7_appealedAt 23 = .ok (.iadd, 1) := by decide +kernel
theorem dX7_appealedAt_24 : decode cX7_appealedAt 24 = .ok (.iaload, 1) := by decide +kernel
theorem dX7_appealedAt_25 : decode cX7_appealedAt 25 = .ok (.iload_n 1, 1) := by decide +kernel
theorem dX7_appealedAt_26 : decode cX7_appealedAt 26 = .ok (.if_icmp .ne 16, 3) := by decide +kernel
theorem dX7_appealedAt_29 : decode cX7_appealedAt 29 = .ok (.aload_n 0, 1) := by decide +kernel
theorem dX7_appealedAt_30 : decode cX7_appealedAt 30 = .ok (.getfield 7, 3) := by decide +kernel
theorem dX7_appealedAt_33 : decode cX7_appealedAt 33 = .ok (.sipush 444, 3) := by decide +kernel
theorem dX7_appealedAt_36 : decode cX7_appealedAt 36 = .ok (.iload_n 3, 1) := by decide +kernel
theorem dX7_appealedAt_37 : decode cX7_appealedAt 37 = .ok (.iadd, 1) := by decide +kernel
theorem dX7_appealedAt_38 : decode cX7_appealedAt 38 = .ok (.iaload, 1) := by decide +kernel
theorem dX7_appealedAt_39 : decode cX7_appealedAt 39 = .ok (.goto 4, 3) := by decide +kernel
theorem dX7_appealedAt_42 : decode cX7_appealedAt 42 = .ok (.iconst 0, 1) := by decide +kernel
theorem dX7_appealedAt_43 : decode cX7_appealedAt 43 = .ok (.iadd, 1) := by decide +kernel
theorem dX7_appealedAt_44 : decode cX7_appealedAt 44 = .ok (.istore_n 2, 1) := by decide +kernel
theorem dX7_appealedAt_45 : decode cX7_appealedAt 45 = .ok (.iinc 3 1, 3) := by decide +kernel
theorem dX7_appealedAt_48 : decode cX7_appealedAt 48 = .ok (.goto (-44), 3) := by decide +kernel
theorem dX7_appealedAt_51 : decode cX7_appealedAt 51 = .ok (.iload_n 2, 1) := by decide +kernel
theorem dX7_appealedAt_52 : decode cX7_appealedAt 52 = .ok (.ireturn, 1) := by decide +kernel
theorem dX7_school_0 : decode cX7_school 0 = .ok (.aload_n 0, 1) := by decide +kernel
theorem dX7_school_1 : decode cX7_school 1 = .ok (.iload_n 1, 1) := by decide +kernel
theorem dX7_school_2 : decode cX7_school 2 = .ok (.invokevirtual 289, 3) := by decide +kernel
theorem dX7_school_5 : decode cX7_school 5 = .ok (.ifCond .ne 26, 3) := by decide +kernel
theorem dX7_school_8 : decode cX7_school 8 = .ok (.aload_n 0, 1) := by decide +kernel
theorem dX7_school_9 : decode cX7_school 9 = .ok (.iload_n 2, 1) := by decide +kernel
theorem dX7_school_10 : decode cX7_school 10 = .ok (.iconst 0, 1) := by decide +kernel
theorem dX7_school_11 : decode cX7_school 11 = .ok (.bipush 9, 2) := by decide +kernel
theorem dX7_school_13 : decode cX7_school 13 = .ok (.invokestatic 66, 3) := by decide +kernel
theorem dX7_school_16 : decode cX7_school 16 = .ok (.ifCond .ne 7, 3) := by decide +kernel
theorem dX7_school_19 : decode cX7_school 19 = .ok (.iconst 1, 1) := by decide +kernel
theorem dX7_school_20 : decode cX7_school 20 = .ok (.goto 4, 3) := by decide +kernel
theorem dX7_school_23 : decode cX7_school 23 = .ok (.iconst 0, 1) := by decide +kernel
theorem dX7_school_24 : decode cX7_school 24 = .ok (.iconst 2, 1) := by decide +kernel
theorem dX7_school_25 : decode cX7_school 25 = .ok (.invokevirtual 279, 3) := by decide +kernel
theorem dX7_school_28 : decode cX7_school 28 = .ok (.ifCond .eq 5, 3) := by decide +kernel
theorem dX7_school_31 : decode cX7_school 31 = .ok (.iconst 0, 1) := by decide +kernel
theorem dX7_school_32 : decode cX7_school 32 = .ok (.ireturn, 1) := by decide +kernel
theorem dX7_school_33 : decode cX7_school 33 = .ok (.iload_n 2, 1) := by decide +kernel
theorem dX7_school_34 : decode cX7_school 34 = .ok (.tableswitch 68 5 9 #[34, 40, 46, 52, 62], 34) := by decide +kernel
theorem dX7_school_68 : decode cX7_school 68 = .ok (.aload_n 0, 1) := by decide +kernel
theorem dX7_school_69 : decode cX7_school 69 = .ok (.iload_n 1, 1) := by decide +kernel
theorem dX7_school_70 : decode cX7_school 70 = .ok (.invokevirtual 292, 3) := by decide +kernel
theorem dX7_school_73 : decode cX7_school 73 = .ok (.ireturn, 1) := by decide +kernel
theorem dX7_school_74 : decode cX7_school 74 = .ok (.aload_n 0, 1) := by decide +kernel
theorem dX7_school_75 : decode cX7_school 75 = .ok (.iload_n 1, 1) := by decide +kernel
theorem dX7_school_76 : decode cX7_school 76 = .ok (.invokevirtual 112, 3) := by decide +kernel
theorem dX7_school_79 : decode cX7_school 79 = .ok (.ireturn, 1) := by decide +kernel
theorem dX7_school_80 : decode cX7_school 80 = .ok (.aload_n 0, 1) := by decide +kernel
theorem dX7_school_81 : decode cX7_school 81 = .ok (.iload_n 1, 1) := by decide +kernel
theorem dX7_school_82 : decode cX7_school 82 = .ok (.invokevirtual 295, 3) := by decide +kernel
theorem dX7_school_85 : decode cX7_school 85 = .ok (.ireturn, 1) := by decide +kernel
theorem dX7_school_86 : decode cX7_school 86 = .ok (.aload_n 0, 1) := by decide +kernel
theorem dX7_school_87 : decode cX7_school 87 = .ok (.getfield 7, 3) := by decide +kernel
theorem dX7_school_90 : decode cX7_school 90 = .ok (.bipush 60, 2) := by decide +kernel
theorem dX7_school_92 : decode cX7_school 92 = .ok (.iload_n 1, 1) := by decide +kernel
theorem dX7_school_93 : decode cX7_school 93 = .ok (.iadd, 1) := by decide +kernel
theorem dX7_school_94 : decode cX7_school 94 = .ok (.iaload, 1) := by decide +kernel
theorem dX7_school_95 : decode cX7_school 95 = .ok (.ireturn, 1) := by decide +kernel
theorem dX7_school_96 : decode cX7_school 96 = .ok (.aload_n 0, 1) := by decide +kernel
theorem dX7_school_97 : decode cX7_school 97 = .ok (.iload_n 1, 1) := by decide +kernel
theorem dX7_school_98 : decode cX7_school 98 = .ok (.invokevirtual 115, 3) := by decide +kernel
theorem dX7_school_101 : decode cX7_school 101 = .ok (.ireturn, 1) := by decide +kernel
theorem dX7_school_102 : decode cX7_school 102 = .ok (.aload_n 0, 1) := by decide +kernel
theorem dX7_school_103 : decode cX7_school 103 = .ok (.getfield 7, 3) := by decide +kernel
theorem dX7_school_106 : decode cX7_school 106 = .ok (.bipush 20, 2) := by decide +kernel
theorem dX7_school_108 : decode cX7_school 108 = .ok (.bipush 8, 2) := by decide +kernel
theorem dX7_school_110 : decode cX7_school 110 = .ok (.iload_n 2, 1) := by decide +kernel
theorem dX7_school_111 : decode cX7_school 111 = .ok (.imul, 1) := by decide +kernel
theorem dX7_school_112 : decode cX7_school 112 = .ok (.iadd, 1) := by decide +kernel
theorem dX7_school_113 : decode cX7_school 113 = .ok (.iload_n 1, 1) := by decide +kernel
theorem dX7_school_114 : decode cX7_school 114 = .ok (.iadd, 1) := by decide +kernel
theorem dX7_school_115 : decode cX7_school 115 = .ok (.iaload, 1) := by decide +kernel
theorem dX7_school_116 : decode cX7_school 116 = .ok (.ireturn, 1) := by decide +kernel
theorem dX7_rule_0 : decode cX7_rule 0 = .ok (.aload_n 0, 1) := by decide +kernel
theorem dX7_rule_1 : decode cX7_rule 1 = .ok (.iload_n 1, 1) := by decide +kernel
theorem dX7_rule_2 : decode cX7_rule 2 = .ok (.invokevirtual 289, 3) := by decide +kernel
theorem dX7_rule_5 : decode cX7_rule 5 = .ok (.ifCond .ne 35, 3) := by decide +kernel
theorem dX7_rule_8 : decode cX7_rule 8 = .ok (.aload_n 0, 1) := by decide +kernel
theorem dX7_rule_9 : decode cX7_rule 9 = .ok (.iload_n 2, 1) := by decide +kernel
theorem dX7_rule_10 : decode cX7_rule 10 = .ok (.iconst 0, 1) := by decide +kernel
theorem dX7_rule_11 : decode cX7_rule 11 = .ok (.aload_n 0, 1) := by decide +kernel
theorem dX7_rule_12 : decode cX7_rule 12 = .ok (.getfield 7, 3) := by decide +kernel
theorem dX7_rule_15 : decode cX7_rule 15 = .ok (.bipush 44, 2) := by decide +kernel
theorem dX7_rule_17 : decode cX7_rule 17 = .ok (.iload_n 1, 1) := by decide +kernel
theorem dX7_rule_18 : decode cX7_rule 18 = .ok (.iadd, 1) := by decide +kernel
theorem dX7_rule_19 : decode cX7_rule 19 = .ok (.iaload, 1) := by decide +kernel
theorem dX7_rule_20 : decode cX7_rule 20 = .ok (.iconst 1, 1) := by decide +kernel
theorem dX7_rule_21 : decode cX7_rule 21 = .ok (.isub, 1) := by decide +kernel
theorem dX7_rule_22 : decode cX7_rule 22 = .ok (.invokestatic 66, 3) := by decide +kernel
theorem dX7_rule_25 : decode cX7_rule 25 = .ok (.ifCond .ne 7, 3) := by decide +kernel
theorem dX7_rule_28 : decode cX7_rule 28 = .ok (.iconst 1, 1) := by decide +kernel
theorem dX7_rule_29 : decode cX7_rule 29 = .ok (.goto 4, 3) := by decide +kernel
theorem dX7_rule_32 : decode cX7_rule 32 = .ok (.iconst 0, 1) := by decide +kernel
theorem dX7_rule_33 : decode cX7_rule 33 = .ok (.iconst 2, 1) := by decide +kernel
theorem dX7_rule_34 : decode cX7_rule 34 = .ok (.invokevirtual 279, 3) := by decide +kernel
theorem dX7_rule_37 : decode cX7_rule 37 = .ok (.ifCond .eq 5, 3) := by decide +kernel
theorem dX7_rule_40 : decode cX7_rule 40 = .ok (.iconst 0, 1) := by decide +kernel
theorem dX7_rule_41 : decode cX7_rule 41 = .ok (.ireturn, 1) := by decide +kernel
theorem dX7_rule_42 : decode cX7_rule 42 = .ok (.aload_n 0, 1) := by decide +kernel
theorem dX7_rule_43 : decode cX7_rule 43 = .ok (.getfield 7, 3) := by decide +kernel
theorem dX7_rule_46 : decode cX7_rule 46 = .ok (.bipush 68, 2) := by decide +kernel
theorem dX7_rule_48 : decode cX7_rule 48 = .ok (.iconst 3, 1) := by decide +kernel
theorem dX7_rule_49 : decode cX7_rule 49 = .ok (.iload_n 1, 1) := by decide +kernel
theorem dX7_rule_50 : decode cX7_rule 50 = .ok (.imul, 1) := by decide +kernel
theorem dX7_rule_51 : decode cX7_rule 51 = .ok (.iadd, 1) := by decide +kernel
theorem dX7_rule_52 : decode cX7_rule 52 = .ok (.iload_n 2, 1) := by decide +kernel
theorem dX7_rule_53 : decode cX7_rule 53 = .ok (.iadd, 1) := by decide +kernel
theorem dX7_rule_54 : decode cX7_rule 54 = .ok (.iaload, 1) := by decide +kernel
theorem dX7_rule_55 : decode cX7_rule 55 = .ok (.ireturn, 1) := by decide +kernel
theorem dX7_child_0 : decode cX7_child 0 = .ok (.aload_n 0, 1) := by decide +kernel
theorem dX7_child_1 : decode cX7_child 1 = .ok (.iload_n 1, 1) := by decide +kernel
theorem dX7_child_2 : decode cX7_child 2 = .ok (.invokevirtual 286, 3) := by decide +kernel
theorem dX7_child_5 : decode cX7_child 5 = .ok (.ifCond .ne 26, 3) := by decide +kernel
theorem dX7_child_8 : decode cX7_child 8 = .ok (.aload_n 0, 1) := by decide +kernel
theorem dX7_child_9 : decode cX7_child 9 = .ok (.iload_n 2, 1) := by decide +kernel
theorem dX7_child_10 : decode cX7_child 10 = .ok (.iconst 0, 1) := by decide +kernel
theorem dX7_child_11 : decode cX7_child 11 = .ok (.bipush 8, 2) := by decide +kernel
theorem dX7_child_13 : decode cX7_child 13 = .ok (.invokestatic 66, 3) := by decide +kernel
theorem dX7_child_16 : decode cX7_child 16 = .ok (.ifCond .ne 7, 3) := by decide +kernel
theorem dX7_child_19 : decode cX7_child 19 = .ok (.iconst 1, 1) := by decide +kernel
theorem dX7_child_20 : decode cX7_child 20 = .ok (.goto 4, 3) := by decide +kernel
theorem dX7_child_23 : decode cX7_child 23 = .ok (.iconst 0, 1) := by decide +kernel
theorem dX7_child_24 : decode cX7_child 24 = .ok (.iconst 2, 1) := by decide +kernel
theorem dX7_child_25 : decode cX7_child 25 = .ok (.invokevirtual 279, 3) := by decide +kernel
theorem dX7_child_28 : decode cX7_child 28 = .ok (.ifCond .eq 5, 3) := by decide +kernel
theorem dX7_child_31 : decode cX7_child 31 = .ok (.iconst 0, 1) := by decide +kernel
theorem dX7_child_32 : decode cX7_child 32 = .ok (.ireturn, 1) := by decide +kernel
theorem dX7_child_33 : decode cX7_child 33 = .ok (.aload_n 0, 1) := by decide +kernel
theorem dX7_child_34 : decode cX7_child 34 = .ok (.getfield 7, 3) := by decide +kernel
theorem dX7_child_37 : decode cX7_child 37 = .ok (.bipush 124, 2) := by decide +kernel
theorem dX7_child_39 : decode cX7_child 39 = .ok (.bipush 40, 2) := by decide +kernel
theorem dX7_child_41 : decode cX7_child 41 = .ok (.iload_n 2, 1) := by decide +kernel
theorem dX7_child_42 : decode cX7_child 42 = .ok (.imul, 1) := by decide +kernel
theorem dX7_child_43 : decode cX7_child 43 = .ok (.iadd, 1) := by decide +kernel
theorem dX7_child_44 : decode cX7_child 44 = .ok (.iload_n 1, 1) := by decide +kernel
theorem dX7_child_45 : decode cX7_child 45 = .ok (.iadd, 1) := by decide +kernel
theorem dX7_child_46 : decode cX7_child 46 = .ok (.iaload, 1) := by decide +kernel
theorem dX7_child_47 : decode cX7_child 47 = .ok (.ireturn, 1) := by decide +kernel
theorem dX7_preference_0 : decode cX7_preference 0 = .ok (.aload_n 0, 1) := by decide +kernel
theorem dX7_preference_1 : decode cX7_preference 1 = .ok (.iload_n 1, 1) := by decide +kernel
theorem dX7_preference_2 : decode cX7_preference 2 = .ok (.invokevirtual 286, 3) := by decide +kernel
theorem dX7_preference_5 : decode cX7_preference 5 = .ok (.ifCond .ne 36, 3) := by decide +kernel
theorem dX7_preference_8 : decode cX7_preference 8 = .ok (.aload_n 0, 1) := by decide +kernel
theorem dX7_preference_9 : decode cX7_preference 9 = .ok (.iload_n 2, 1) := by decide +kernel
theorem dX7_preference_10 : decode cX7_preference 10 = .ok (.iconst 0, 1) := by decide +kernel
theorem dX7_preference_11 : decode cX7_preference 11 = .ok (.aload_n 0, 1) := by decide +kernel
theorem dX7_preference_12 : decode cX7_preference 12 = .ok (.getfield 7, 3) := by decide +kernel
theorem dX7_preference_15 : decode cX7_preference 15 = .ok (.sipush 324, 3) := by decide +kernel
theorem dX7_preference_18 : decode cX7_preference 18 = .ok (.iload_n 1, 1) := by decide +kernel
theorem dX7_preference_19 : decode cX7_preference 19 = .ok (.iadd, 1) := by decide +kernel
theorem dX7_preference_20 : decode cX7_preference 20 = .ok (.iaload, 1) := by decide +kernel
theorem dX7_preference_21 : decode cX7_preference 21 = .ok (.iconst 1, 1) := by decide +kernel
theorem dX7_preference_22 : decode cX7_preference 22 = .ok (.isub, 1) := by decide +kernel
theorem dX7_preference_23 : decode cX7_preference 23 = .ok (.invokestatic 66, 3) := by decide +kernel
theorem dX7_preference_26 : decode cX7_preference 26 = .ok (.ifCond .ne 7, 3) := by decide +kernel
theorem dX7_preference_29 : decode cX7_preference 29 = .ok (.iconst 1, 1) := by decide +kernel
theorem dX7_preference_30 : decode cX7_preference 30 = .ok (.goto 4, 3) := by decide +kernel
theorem dX7_preference_33 : decode cX7_preference 33 = .ok (.iconst 0, 1) := by decide +kernel
theorem dX7_preference_34 : decode cX7_preference 34 = .ok (.iconst 2, 1) := by decide +kernel
theorem dX7_preference_35 : decode cX7_preference 35 = .ok (.invokevirtual 279, 3) := by decide +kernel
theorem dX7_preference_38 : decode cX7_preference 38 = .ok (.ifCond .eq 5, 3) := by decide +kernel
theorem dX7_preference_41 : decode cX7_preference 41 = .ok (.iconst 0, 1) := by decide +kernel
theorem dX7_preference_42 : decode cX7_preference 42 = .ok (.ireturn, 1) := by decide +kernel
theorem dX7_preference_43 : decode cX7_preference 43 = .ok (.aload_n 0, 1) := by decide +kernel
theorem dX7_preference_44 : decode cX7_preference 44 = .ok (.getfield 7, 3) := by decide +kernel
theorem dX7_preference_47 : decode cX7_preference 47 = .ok (.sipush 564, 3) := by decide +kernel
theorem dX7_preference_50 : decode cX7_preference 50 = .ok (.iconst 4, 1) := by decide +kernel
theorem dX7_preference_51 : decode cX7_preference 51 = .ok (.iload_n 1, 1) := by decide +kernel
theorem dX7_preference_52 : decode cX7_preference 52 = .ok (.imul, 1) := by decide +kernel
theorem dX7_preference_53 : decode cX7_preference 53 = .ok (.iadd, 1) := by decide +kernel
theorem dX7_preference_54 : decode cX7_preference 54 = .ok (.iload_n 2, 1) := by decide +kernel
theorem dX7_preference_55 : decode cX7_preference 55 = .ok (.iadd, 1) := by decide +kernel
theorem dX7_preference_56 : decode cX7_preference 56 = .ok (.iaload, 1) := by decide +kernel
theorem dX7_preference_57 : decode cX7_preference 57 = .ok (.ireturn, 1) := by decide +kernel
theorem dX7_placeOf_0 : decode cX7_placeOf 0 = .ok (.aload_n 0, 1) := by decide +kernel
theorem dX7_placeOf_1 : decode cX7_placeOf 1 = .ok (.iload_n 1, 1) := by decide +kernel
theorem dX7_placeOf_2 : decode cX7_placeOf 2 = .ok (.invokevirtual 286, 3) := by decide +kernel
theorem dX7_placeOf_5 : decode cX7_placeOf 5 = .ok (.ifCond .eq 7, 3) := by decide +kernel
theorem dX7_placeOf_8 : decode cX7_placeOf 8 = .ok (.iconst 0, 1) := by decide +kernel
theorem dX7_placeOf_9 : decode cX7_placeOf 9 = .ok (.goto 13, 3) := by decide +kernel
theorem dX7_placeOf_12 : decode cX7_placeOf 12 = .ok (.aload_n 0, 1) := by decide +kernel
theorem dX7_placeOf_13 : decode cX7_placeOf 13 = .ok (.getfield 7, 3) := by decide +kernel
theorem dX7_placeOf_16 : decode cX7_placeOf 16 = .ok (.sipush 484, 3) := by decide +kernel
theorem dX7_placeOf_19 : decode cX7_placeOf 19 = .ok (.iload_n 1, 1) := by decide +kernel
theorem dX7_placeOf_20 : decode cX7_placeOf 20 = .ok (.iadd, 1) := by decide +kernel
theorem dX7_placeOf_21 : decode cX7_placeOf 21 = .ok (.iaload, 1) := by decide +kernel
theorem dX7_placeOf_22 : decode cX7_placeOf 22 = .ok (.ireturn, 1) := by decide +kernel
theorem dX7_gotPreference_0 : decode cX7_gotPreference 0 = .ok (.aload_n 0, 1) := by decide +kernel
theorem dX7_gotPreference_1 : decode cX7_gotPreference 1 = .ok (.iload_n 1, 1) := by decide +kernel
theorem dX7_gotPreference_2 : decode cX7_gotPreference 2 = .ok (.invokevirtual 286, 3) := by decide +kernel
theorem dX7_gotPreference_5 : decode cX7_gotPreference 5 = .ok (.ifCond .eq 7, 3) := by decide +kernel
theorem dX7_gotPreference_8 : decode cX7_gotPreference 8 = .ok (.iconst 0, 1) := by decide +kernel
theorem dX7_gotPreference_9 : decode cX7_gotPreference 9 = .ok (.goto 8, 3) := by decide +kernel
theorem dX7_gotPreference_12 : decode cX7_gotPreference 12 = .ok (.aload_n 0, 1) := by decide +kernel
theorem dX7_gotPreference_13 : decode cX7_gotPreference 13 = .ok (.iload_n 1, 1) := by decide +kernel
theorem dX7_gotPreference_14 : decode cX7_gotPreference 14 = .ok (.invokevirtual 94, 3) := by decide +kernel
theorem dX7_gotPreference_17 : decode cX7_gotPreference 17 = .ok (.ireturn, 1) := by decide +kernel
theorem dX7_meets_0 : decode cX7_meets 0 = .ok (.aload_n 0, 1) := by decide +kernel
theorem dX7_meets_1 : decode cX7_meets 1 = .ok (.iload_n 1, 1) := by decide +kernel
theorem dX7_meets_2 : decode cX7_meets 2 = .ok (.iload_n 2, 1) := by decide +kernel
theorem dX7_meets_3 : decode cX7_meets 3 = .ok (.invokevirtual 298, 3) := by decide +kernel
theorem dX7_meets_6 : decode cX7_meets 6 = .ok (.ifCond .ne 39, 3) := by decide +kernel
theorem dX7_meets_9 : decode cX7_meets 9 = .ok (.aload_n 0, 1) := by decide +kernel
theorem dX7_meets_10 : decode cX7_meets 10 = .ok (.iload_n 3, 1) := by decide +kernel
theorem dX7_meets_11 : decode cX7_meets 11 = .ok (.iconst 0, 1) := by decide +kernel
theorem dX7_meets_12 : decode cX7_meets 12 = .ok (.iconst 2, 1) := by decide +kernel
theorem dX7_meets_13 : decode cX7_meets 13 = .ok (.invokestatic 66, 3) := by decide +kernel
theorem dX7_meets_16 : decode cX7_meets 16 = .ok (.ifCond .ne 7, 3) := by decide +kernel
theorem dX7_meets_19 : decode cX7_meets 19 = .ok (.iconst 1, 1) := by decide +kernel
theorem dX7_meets_20 : decode cX7_meets 20 = .ok (.goto 4, 3) := by decide +kernel
theorem dX7_meets_23 : decode cX7_meets 23 = .ok (.iconst 0, 1) := by decide +kernel
theorem dX7_meets_24 : decode cX7_meets 24 = .ok (.iconst 2, 1) := by decide +kernel
theorem dX7_meets_25 : decode cX7_meets 25 = .ok (.invokevirtual 279, 3) := by decide +kernel
theorem dX7_meets_28 : decode cX7_meets 28 = .ok (.ifCond .ne 17, 3) := by decide +kernel
theorem dX7_meets_31 : decode cX7_meets 31 = .ok (.aload_n 0, 1) := by decide +kernel
theorem dX7_meets_32 : decode cX7_meets 32 = .ok (.iload_n 1, 1) := by decide +kernel
theorem dX7_meets_33 : decode cX7_meets 33 = .ok (.iload_n 2, 1) := by decide +kernel
theorem dX7_meets_34 : decode cX7_meets 34 = .ok (.iload_n 3, 1) := by decide +kernel
theorem dX7_meets_35 : decode cX7_meets 35 = .ok (.invokevirtual 77, 3) := by decide +kernel
theorem dX7_meets_38 : decode cX7_meets 38 = .ok (.ifCond .eq 7, 3) := by decide +kernel
theorem dX7_meets_41 : decode cX7_meets 41 = .ok (.iconst 1, 1) := by decide +kernel
theorem dX7_meets_42 : decode cX7_meets 42 = .ok (.goto 4, 3) := by decide +kernel
theorem dX7_meets_45 : decode cX7_meets 45 = .ok (.iconst 0, 1) := by decide +kernel
theorem dX7_meets_46 : decode cX7_meets 46 = .ok (.ireturn, 1) := by decide +kernel
theorem dX7_classOf_0 : decode cX7_classOf 0 = .ok (.aload_n 0, 1) := by decide +kernel
theorem dX7_classOf_1 : decode cX7_classOf 1 = .ok (.iload_n 1, 1) := by decide +kernel
theorem dX7_classOf_2 : decode cX7_classOf 2 = .ok (.iload_n 2, 1) := by decide +kernel
theorem dX7_classOf_3 : decode cX7_classOf 3 = .ok (.invokevirtual 298, 3) := by decide +kernel
theorem dX7_classOf_6 : decode cX7_classOf 6 = .ok (.ifCond .eq 7, 3) := by decide +kernel
theorem dX7_classOf_9 : decode cX7_classOf 9 = .ok (.iconst 0, 1) := by decide +kernel
theorem dX7_classOf_10 : decode cX7_classOf 10 = .ok (.goto 9, 3) := by decide +kernel
theorem dX7_classOf_13 : decode cX7_classOf 13 = .ok (.aload_n 0, 1) := by decide +kernel
theorem dX7_classOf_14 : decode cX7_classOf 14 = .ok (.iload_n 1, 1) := by decide +kernel
theorem dX7_classOf_15 : decode cX7_classOf 15 = .ok (.iload_n 2, 1) := by decide +kernel
theorem dX7_classOf_16 : decode cX7_classOf 16 = .ok (.invokevirtual 80, 3) := by decide +kernel
theorem dX7_classOf_19 : decode cX7_classOf 19 = .ok (.ireturn, 1) := by decide +kernel
theorem dX7_distance_0 : decode cX7_distance 0 = .ok (.aload_n 0, 1) := by decide +kernel
theorem dX7_distance_1 : decode cX7_distance 1 = .ok (.iload_n 1, 1) := by decide +kernel
theorem dX7_distance_2 : decode cX7_distance 2 = .ok (.iload_n 2, 1) := by decide +kernel
theorem dX7_distance_3 : decode cX7_distance 3 = .ok (.invokevirtual 298, 3) := by decide +kernel
theorem dX7_distance_6 : decode cX7_distance 6 = .ok (.ifCond .eq 7, 3) := by decide +kernel
theorem dX7_distance_9 : decode cX7_distance 9 = .ok (.iconst 0, 1) := by decide +kernel
theorem dX7_distance_10 : decode cX7_distance 10 = .ok (.goto 9, 3) := by decide +kernel
theorem dX7_distance_13 : decode cX7_distance 13 = .ok (.aload_n 0, 1) := by decide +kernel
theorem dX7_distance_14 : decode cX7_distance 14 = .ok (.iload_n 1, 1) := by decide +kernel
theorem dX7_distance_15 : decode cX7_distance 15 = .ok (.iload_n 2, 1) := by decide +kernel
theorem dX7_distance_16 : decode cX7_distance 16 = .ok (.invokevirtual 84, 3) := by decide +kernel
theorem dX7_distance_19 : decode cX7_distance 19 = .ok (.ireturn, 1) := by decide +kernel
theorem dX7_comesFirst_0 : decode cX7_comesFirst 0 = .ok (.aload_n 0, 1) := by decide +kernel
theorem dX7_comesFirst_1 : decode cX7_comesFirst 1 = .ok (.iload_n 1, 1) := by decide +kernel
theorem dX7_comesFirst_2 : decode cX7_comesFirst 2 = .ok (.invokevirtual 289, 3) := by decide +kernel
theorem dX7_comesFirst_5 : decode cX7_comesFirst 5 = .ok (.ifCond .ne 38, 3) := by decide +kernel
theorem dX7_comesFirst_8 : decode cX7_comesFirst 8 = .ok (.aload_n 0, 1) := by decide +kernel
theorem dX7_comesFirst_9 : decode cX7_comesFirst 9 = .ok (.iload_n 2, 1) := by decide +kernel
theorem dX7_comesFirst_10 : decode cX7_comesFirst 10 = .ok (.invokevirtual 286, 3) := by decide +kernel
theorem dX7_comesFirst_13 : decode cX7_comesFirst 13 = .ok (.ifCond .ne 30, 3) := by decide +kernel
theorem dX7_comesFirst_16 : decode cX7_comesFirst 16 = .ok (.aload_n 0, 1) := by decide +kernel
theorem dX7_comesFirst_17 : decode cX7_comesFirst 17 = .ok (.iload_n 3, 1) := by decide +kernel
theorem dX7_comesFirst_18 : decode cX7_comesFirst 18 = .ok (.invokevirtual 286, 3) := by decide +kernel
theorem dX7_comesFirst_21 : decode cX7_comesFirst 21 = .ok (.ifCond .ne 22, 3) := by decide +kernel
theorem dX7_comesFirst_24 : decode cX7_comesFirst 24 = .ok (.iload_n 2, 1) := by decide +kernel
theorem dX7_comesFirst_25 : decode cX7_comesFirst 25 = .ok (.iload_n 3, 1) := by decide +kernel
theorem dX7_comesFirst_26 : decode cX7_comesFirst 26 = .ok (.if_icmp .eq 17, 3) := by decide +kernel
theorem dX7_comesFirst_29 : decode cX7_comesFirst 29 = .ok (.aload_n 0, 1) := by decide +kernel
theorem dX7_comesFirst_30 : decode cX7_comesFirst 30 = .ok (.iload_n 1, 1) := by decide +kernel
theorem dX7_comesFirst_31 : decode cX7_comesFirst 31 = .ok (.iload_n 2, 1) := by decide +kernel
theorem dX7_comesFirst_32 : decode cX7_comesFirst 32 = .ok (.iload_n 3, 1) := by decide +kernel
theorem dX7_comesFirst_33 : decode cX7_comesFirst 33 = .ok (.invokevirtual 105, 3) := by decide +kernel
theorem dX7_comesFirst_36 : decode cX7_comesFirst 36 = .ok (.ifCond .eq 7, 3) := by decide +kernel
theorem dX7_comesFirst_39 : decode cX7_comesFirst 39 = .ok (.iconst 1, 1) := by decide +kernel
theorem dX7_comesFirst_40 : decode cX7_comesFirst 40 = .ok (.goto 4, 3) := by decide +kernel
theorem dX7_comesFirst_43 : decode cX7_comesFirst 43 = .ok (.iconst 0, 1) := by decide +kernel
theorem dX7_comesFirst_44 : decode cX7_comesFirst 44 = .ok (.ireturn, 1) := by decide +kernel
theorem dX7_holder_0 : decode cX7_holder 0 = .ok (.aload_n 0, 1) := by decide +kernel
theorem dX7_holder_1 : decode cX7_holder 1 = .ok (.iload_n 1, 1) := by decide +kernel
theorem dX7_holder_2 : decode cX7_holder 2 = .ok (.invokevirtual 289, 3) := by decide +kernel
theorem dX7_holder_5 : decode cX7_holder 5 = .ok (.ifCond .ne 31, 3) := by decide +kernel
theorem dX7_holder_8 : decode cX7_holder 8 = .ok (.aload_n 0, 1) := by decide +kernel
theorem dX7_holder_9 : decode cX7_holder 9 = .ok (.iload_n 2, 1) := by decide +kernel
theorem dX7_holder_10 : decode cX7_holder 10 = .ok (.iconst 0, 1) := by decide +kernel
theorem dX7_holder_11 : decode cX7_holder 11 = .ok (.aload_n 0, 1) := by decide +kernel
theorem dX7_holder_12 : decode cX7_holder 12 = .ok (.iload_n 1, 1) := by decide +kernel
theorem dX7_holder_13 : decode cX7_holder 13 = .ok (.invokevirtual 112, 3) := by decide +kernel
theorem dX7_holder_16 : decode cX7_holder 16 = .ok (.iconst 1, 1) := by decide +kernel
theorem dX7_holder_17 : decode cX7_holder 17 = .ok (.isub, 1) := by decide +kernel
theorem dX7_holder_18 : decode cX7_holder 18 = .ok (.invokestatic 66, 3) := by decide +kernel
theorem dX7_holder_21 : decode cX7_holder 21 = .ok (.ifCond .ne 7, 3) := by decide +kernel
theorem dX7_holder_24 : decode cX7_holder 24 = .ok (.iconst 1, 1) := by decide +kernel
theorem dX7_holder_25 : decode cX7_holder 25 = .ok (.goto 4, 3) := by decide +kernel
theorem dX7_holder_28 : decode cX7_holder 28 = .ok (.iconst 0, 1) := by decide +kernel
theorem dX7_holder_29 : decode cX7_holder 29 = .ok (.iconst 2, 1) := by decide +kernel
theorem dX7_holder_30 : decode cX7_holder 30 = .ok (.invokevirtual 279, 3) := by decide +kernel
theorem dX7_holder_33 : decode cX7_holder 33 = .ok (.ifCond .eq 5, 3) := by decide +kernel
theorem dX7_holder_36 : decode cX7_holder 36 = .ok (.iconst 0, 1) := by decide +kernel
theorem dX7_holder_37 : decode cX7_holder 37 = .ok (.ireturn, 1) := by decide +kernel
theorem dX7_holder_38 : decode cX7_holder 38 = .ok (.aload_n 0, 1) := by decide +kernel
theorem dX7_holder_39 : decode cX7_holder 39 = .ok (.iload_n 1, 1) := by decide +kernel
theorem dX7_holder_40 : decode cX7_holder 40 = .ok (.iload_n 2, 1) := by decide +kernel
theorem dX7_holder_41 : decode cX7_holder 41 = .ok (.iconst 0, 1) := by decide +kernel
theorem dX7_holder_42 : decode cX7_holder 42 = .ok (.invokevirtual 122, 3) := by decide +kernel
theorem dX7_holder_45 : decode cX7_holder 45 = .ok (.ireturn, 1) := by decide +kernel
theorem dX7_waiting_0 : decode cX7_waiting 0 = .ok (.aload_n 0, 1) := by decide +kernel
theorem dX7_waiting_1 : decode cX7_waiting 1 = .ok (.iload_n 1, 1) := by decide +kernel
theorem dX7_waiting_2 : decode cX7_waiting 2 = .ok (.invokevirtual 289, 3) := by decide +kernel
theorem dX7_waiting_5 : decode cX7_waiting 5 = .ok (.ifCond .ne 31, 3) := by decide +kernel
theorem dX7_waiting_8 : decode cX7_waiting 8 = .ok (.aload_n 0, 1) := by decide +kernel
theorem dX7_waiting_9 : decode cX7_waiting 9 = .ok (.iload_n 2, 1) := by decide +kernel
theorem dX7_waiting_10 : decode cX7_waiting 10 = .ok (.iconst 0, 1) := by decide +kernel
theorem dX7_waiting_11 : decode cX7_waiting 11 = .ok (.aload_n 0, 1) := by decide +kernel
theorem dX7_waiting_12 : decode cX7_waiting 12 = .ok (.iload_n 1, 1) := by decide +kernel
theorem dX7_waiting_13 : decode cX7_waiting 13 = .ok (.invokevirtual 115, 3) := by decide +kernel
theorem dX7_waiting_16 : decode cX7_waiting 16 = .ok (.iconst 1, 1) := by decide +kernel
theorem dX7_waiting_17 : decode cX7_waiting 17 = .ok (.isub, 1) := by decide +kernel
theorem dX7_waiting_18 : decode cX7_waiting 18 = .ok (.invokestatic 66, 3) := by decide +kernel
theorem dX7_waiting_21 : decode cX7_waiting 21 = .ok (.ifCond .ne 7, 3) := by decide +kernel
theorem dX7_waiting_24 : decode cX7_waiting 24 = .ok (.iconst 1, 1) := by decide +kernel
theorem dX7_waiting_25 : decode cX7_waiting 25 = .ok (.goto 4, 3) := by decide +kernel
theorem dX7_waiting_28 : decode cX7_waiting 28 = .ok (.iconst 0, 1) := by decide +kernel
theorem dX7_waiting_29 : decode cX7_waiting 29 = .ok (.iconst 2, 1) := by decide +kernel
theorem dX7_waiting_30 : decode cX7_waiting 30 = .ok (.invokevirtual 279, 3) := by decide +kernel
theorem dX7_waiting_33 : decode cX7_waiting 33 = .ok (.ifCond .eq 5, 3) := by decide +kernel
theorem dX7_waiting_36 : decode cX7_waiting 36 = .ok (.iconst 0, 1) := by decide +kernel
theorem dX7_waiting_37 : decode cX7_waiting 37 = .ok (.ireturn, 1) := by decide +kernel
theorem dX7_waiting_38 : decode cX7_waiting 38 = .ok (.aload_n 0, 1) := by decide +kernel
theorem dX7_waiting_39 : decode cX7_waiting 39 = .ok (.iload_n 1, 1) := by decide +kernel
theorem dX7_waiting_40 : decode cX7_waiting 40 = .ok (.iload_n 2, 1) := by decide +kernel
theorem dX7_waiting_41 : decode cX7_waiting 41 = .ok (.iconst 1, 1) := by decide +kernel
theorem dX7_waiting_42 : decode cX7_waiting 42 = .ok (.invokevirtual 122, 3) := by decide +kernel
theorem dX7_waiting_45 : decode cX7_waiting 45 = .ok (.ireturn, 1) := by decide +kernel
theorem dX7_waitingPlace_0 : decode cX7_waitingPlace 0 = .ok (.aload_n 0, 1) := by decide +kernel
theorem dX7_waitingPlace_1 : decode cX7_waitingPlace 1 = .ok (.iload_n 1, 1) := by decide +kernel
theorem dX7_waitingPlace_2 : decode cX7_waitingPlace 2 = .ok (.iload_n 2, 1) := by decide +kernel
theorem dX7_waitingPlace_3 : decode cX7_waitingPlace 3 = .ok (.invokevirtual 298, 3) := by decide +kernel
theorem dX7_waitingPlace_6 : decode cX7_waitingPlace 6 = .ok (.ifCond .eq 5, 3) := by decide +kernel
theorem dX7_waitingPlace_9 : decode cX7_waitingPlace 9 = .ok (.iconst 0, 1) := by decide +kernel
theorem dX7_waitingPlace_10 : decode cX7_waitingPlace 10 = .ok (.ireturn, 1) := by decide +kernel
theorem dX7_waitingPlace_11 : decode cX7_waitingPlace 11 = .ok (.aload_n 0, 1) := by decide +kernel
theorem dX7_waitingPlace_12 : decode cX7_waitingPlace 12 = .ok (.iload_n 1, 1) := by decide +kernel
theorem dX7_waitingPlace_13 : decode cX7_waitingPlace 13 = .ok (.iload_n 2, 1) := by decide +kernel
theorem dX7_waitingPlace_14 : decode cX7_waitingPlace 14 = .ok (.invokevirtual 98, 3) := by decide +kernel
theorem dX7_waitingPlace_17 : decode cX7_waitingPlace 17 = .ok (.ifCond .eq 13, 3) := by decide +kernel
theorem dX7_waitingPlace_20 : decode cX7_waitingPlace 20 = .ok (.aload_n 0, 1) := by decide +kernel
theorem dX7_waitingPlace_21 : decode cX7_waitingPlace 21 = .ok (.iload_n 1, 1) := by decide +kernel
theorem dX7_waitingPlace_22 : decode cX7_waitingPlace 22 = .ok (.iload_n 2, 1) := by decide +kernel
theorem dX7_waitingPlace_23 : decode cX7_waitingPlace 23 = .ok (.iconst 1, 1) := by decide +kernel
theorem dX7_waitingPlace_24 : decode cX7_waitingPlace 24 = .ok (.invokevirtual 108, 3) := by decide +kernel
theorem dX7_waitingPlace_27 : decode cX7_waitingPlace 27 = .ok (.goto 4, 3) := by decide +kernel
theorem dX7_waitingPlace_30 : decode cX7_waitingPlace 30 = .ok (.iconst (-1), 1) := by decide +kernel
theorem dX7_waitingPlace_31 : decode cX7_waitingPlace 31 = .ok (.ireturn, 1) := by decide +kernel
theorem dX7_claims_0 : decode cX7_claims 0 = .ok (.aload_n 0, 1) := by decide +kernel
theorem dX7_claims_1 : decode cX7_claims 1 = .ok (.iload_n 1, 1) := by decide +kernel
theorem dX7_claims_2 : decode cX7_claims 2 = .ok (.iload_n 2, 1) := by decide +kernel
theorem dX7_claims_3 : decode cX7_claims 3 = .ok (.invokevirtual 98, 3) := by decide +kernel
theorem dX7_claims_6 : decode cX7_claims 6 = .ok (.ifCond .ne 5, 3) := by decide +kernel
theorem dX7_claims_9 : decode cX7_claims 9 = .ok (.iconst 0, 1) := by decide +kernel
theorem dX7_claims_10 : decode cX7_claims 10 = .ok (.ireturn, 1) := by decide +kernel
theorem dX7_claims_11 : decode cX7_claims 11 = .ok (.iconst 0, 1) := by decide +kernel
theorem dX7_claims_12 : decode cX7_claims 12 = .ok (.istore_n 3, 1) := by decide +kernel
theorem dX7_claims_13 : decode cX7_claims 13 = .ok (.iload_n 3, 1) := by decide +kernel
theorem dX7_claims_14 : decode cX7_claims 14 = .ok (.aload_n 0, 1) := by decide +kernel
theorem dX7_claims_15 : decode cX7_claims 15 = .ok (.getfield 7, 3) := by decide +kernel
theorem dX7_claims_18 : decode cX7_claims 18 = .ok (.iconst 1, 1) := by decide +kernel
theorem dX7_claims_19 : decode cX7_claims 19 = .ok (.iaload, 1) := by decide +kernel
theorem dX7_claims_20 : decode cX7_claims 20 = .ok (.if_icmp .ge 48, 3) := by decide +kernel
theorem dX7_claims_23 : decode cX7_claims 23 = .ok (.aload_n 0, 1) := by decide +kernel
theorem dX7_claims_24 : decode cX7_claims 24 = .ok (.getfield 7, 3) := by decide +kernel
theorem dX7_claims_27 : decode cX7_claims 27 = .ok (.sipush 484, 3) := by decide +kernel
theorem dX7_claims_30 : decode cX7_claims 30 = .ok (.iload_n 3, 1) := by decide +kernel
theorem dX7_claims_31 : decode cX7_claims 31 = .ok (.iadd, 1) := by decide +kernel
theorem dX7_claims_32 : decode cX7_claims 32 = .ok (.iaload, 1) := by decide +kernel
theorem dX7_claims_33 : decode cX7_claims 33 = .ok (.iload_n 2, 1) := by decide +kernel
theorem dX7_claims_34 : decode cX7_claims 34 = .ok (.if_icmp .ne 28, 3) := by decide +kernel
theorem dX7_claims_37 : decode cX7_claims 37 = .ok (.aload_n 0, 1) := by decide +kernel
theorem dX7_claims_38 : decode cX7_claims 38 = .ok (.getfield 7, 3) := by decide +kernel
theorem dX7_claims_41 : decode cX7_claims 41 = .ok (.sipush 444, 3) := by decide +kernel
theorem dX7_claims_44 : decode cX7_claims 44 = .ok (.iload_n 3, 1) := by decide +kernel
theorem dX7_claims_45 : decode cX7_claims 45 = .ok (.iadd, 1) := by decide +kernel
theorem dX7_claims_46 : decode cX7_claims 46 = .ok (.iaload, 1) := by decide +kernel
theorem dX7_claims_47 : decode cX7_claims 47 = .ok (.ifCond .ne 15, 3) := by decide +kernel
theorem dX7_claims_50 : decode cX7_claims 50 = .ok (.aload_n 0, 1) := by decide +kernel
theorem dX7_claims_51 : decode cX7_claims 51 = .ok (.iload_n 2, 1) := by decide +kernel
theorem dX7_claims_52 : decode cX7_claims 52 = .ok (.iload_n 1, 1) := by decide +kernel
theorem dX7_claims_53 : decode cX7_claims 53 = .ok (.iload_n 3, 1) := by decide +kernel
theorem dX7_claims_54 : decode cX7_claims 54 = .ok (.invokevirtual 105, 3) := by decide +kernel
theorem dX7_claims_57 : decode cX7_claims 57 = .ok (.ifCond .eq 5, 3) := by decide +kernel
theorem dX7_claims_60 : decode cX7_claims 60 = .ok (.iconst 1, 1) := by decide +kernel
theorem dX7_claims_61 : decode cX7_claims 61 = .ok (.ireturn, 1) := by decide +kernel
theorem dX7_claims_62 : decode cX7_claims 62 = .ok (.iinc 3 1, 3) := by decide +kernel
theorem dX7_claims_65 : decode cX7_claims 65 = .ok (.goto (-52), 3) := by decide +kernel
theorem dX7_claims_68 : decode cX7_claims 68 = .ok (.iconst 0, 1) := by decide +kernel
theorem dX7_claims_69 : decode cX7_claims 69 = .ok (.ireturn, 1) := by decide +kernel
theorem dX7_hasClaim_0 : decode cX7_hasClaim 0 = .ok (.aload_n 0, 1) := by decide +kernel
theorem dX7_hasClaim_1 : decode cX7_hasClaim 1 = .ok (.iload_n 1, 1) := by decide +kernel
theorem dX7_hasClaim_2 : decode cX7_hasClaim 2 = .ok (.iload_n 2, 1) := by decide +kernel
theorem dX7_hasClaim_3 : decode cX7_hasClaim 3 = .ok (.invokevirtual 298, 3) := by decide +kernel
theorem dX7_hasClaim_6 : decode cX7_hasClaim 6 = .ok (.ifCond .ne 16, 3) := by decide +kernel
theorem dX7_hasClaim_9 : decode cX7_hasClaim 9 = .ok (.aload_n 0, 1) := by decide +kernel
theorem dX7_hasClaim_10 : decode cX7_hasClaim 10 = .ok (.iload_n 1, 1) := by decide +kernel
theorem dX7_hasClaim_11 : decode cX7_hasClaim 11 = .ok (.iload_n 2, 1) := by decide +kernel
theorem dX7_hasClaim_12 : decode cX7_hasClaim 12 = .ok (.invokevirtual 301, 3) := by decide +kernel
theorem dX7_hasClaim_15 : decode cX7_hasClaim 15 = .ok (.ifCond .eq 7, 3) := by decide +kernel
theorem dX7_hasClaim_18 : decode cX7_hasClaim 18 = .ok (.iconst 1, 1) := by decide +kernel
theorem dX7_hasClaim_19 : decode cX7_hasClaim 19 = .ok (.goto 4, 3) := by decide +kernel
theorem dX7_hasClaim_22 : decode cX7_hasClaim 22 = .ok (.iconst 0, 1) := by decide +kernel
theorem dX7_hasClaim_23 : decode cX7_hasClaim 23 = .ok (.ireturn, 1) := by decide +kernel
theorem dX7_claims__0 : decode cX7_claims_ 0 = .ok (.aload_n 0, 1) := by decide +kernel
theorem dX7_claims__1 : decode cX7_claims_ 1 = .ok (.iconst 0, 1) := by decide +kernel
theorem dX7_claims__2 : decode cX7_claims_ 2 = .ok (.putfield 56, 3) := by decide +kernel
theorem dX7_claims__5 : decode cX7_claims_ 5 = .ok (.iconst 0, 1) := by decide +kernel
theorem dX7_claims__6 : decode cX7_claims_ 6 = .ok (.istore_n 1, 1) := by decide +kernel
theorem dX7_claims__7 : decode cX7_claims_ 7 = .ok (.iconst 0, 1) := by decide +kernel
theorem dX7_claims__8 : decode cX7_claims_ 8 = .ok (.istore_n 2, 1) := by decide +kernel
theorem dX7_claims__9 : decode cX7_claims_ 9 = .ok (.iload_n 2, 1) := by decide +kernel
theorem dX7_claims__10 : decode cX7_claims_ 10 = .ok (.aload_n 0, 1) := by decide +kernel
theorem dX7_claims__11 : decode cX7_claims_ 11 = .ok (.getfield 7, 3) := by decide +kernel
theorem dX7_claims__14 : decode cX7_claims_ 14 = .ok (.iconst 1, 1) := by decide +kernel
theorem dX7_claims__15 : decode cX7_claims_ 15 = .ok (.iaload, 1) := by decide +kernel
theorem dX7_claims__16 : decode cX7_claims_ 16 = .ok (.if_icmp .ge 44, 3) := by decide +kernel
theorem dX7_claims__19 : decode cX7_claims_ 19 = .ok (.iconst 0, 1) := by decide +kernel
theorem dX7_claims__20 : decode cX7_claims_ 20 = .ok (.istore_n 3, 1) := by decide +kernel
theorem dX7_claims__21 : decode cX7_claims_ 21 = .ok (.iload_n 3, 1) := by decide +kernel
theorem dX7_claims__22 : decode cX7_claims_ 22 = .ok (.aload_n 0, 1) := by decide +kernel
theorem dX7_claims__23 : decode cX7_claims_ 23 = .ok (.getfield 7, 3) := by decide +kernel
theorem dX7_claims__26 : decode cX7_claims_ 26 = .ok (.iconst 0, 1) := by decide +kernel
theorem dX7_claims__27 : decode cX7_claims_ 27 = .ok (.iaload, 1) := by decide +kernel
theorem dX7_claims__28 : decode cX7_claims_ 28 = .ok (.if_icmp .ge 26, 3) := by decide +kernel
theorem dX7_claims__31 : decode cX7_claims_ 31 = .ok (.iload_n 1, 1) := by decide +kernel
theorem dX7_claims__32 : decode cX7_claims_ 32 = .ok (.aload_n 0, 1) := by decide +kernel
theorem dX7_claims__33 : decode cX7_claims_ 33 = .ok (.iload_n 2, 1) := by decide +kernel
theorem dX7_claims__34 : decode cX7_claims_ 34 = .ok (.iload_n 3, 1) := by decide +kernel
theorem dX7_claims__35 : decode cX7_claims_ 35 = .ok (.invokevirtual 301, 3) := by decide +kernel
theorem dX7_claims__38 : decode cX7_claims_ 38 = .ok (.ifCond .eq 7, 3) := by decide +kernel
theorem dX7_claims__41 : decode cX7_claims_ 41 = .ok (.iconst 1, 1) := by decide +kernel
theorem dX7_claims__42 : decode cX7_claims_ 42 = .ok (.goto 4, 3) := by decide +kernel
theorem dX7_claims__45 : decode cX7_claims_ 45 = .ok (.iconst 0, 1) := by decide +kernel
theorem dX7_claims__46 : decode cX7_claims_ 46 = .ok (.iadd, 1) := by decide +kernel
theorem dX7_claims__47 : decode cX7_claims_ 47 = .ok (.istore_n 1, 1) := by decide +kernel
theorem dX7_claims__48 : decode cX7_claims_ 48 = .ok (.iinc 3 1, 3) := by decide +kernel
theorem dX7_claims__51 : decode cX7_claims_ 51 = .ok (.goto (-30), 3) := by decide +kernel
theorem dX7_claims__54 : decode cX7_claims_ 54 = .ok (.iinc 2 1, 3) := by decide +kernel
theorem dX7_claims__57 : decode cX7_claims_ 57 = .ok (.goto (-48), 3) := by decide +kernel
theorem dX7_claims__60 : decode cX7_claims_ 60 = .ok (.iload_n 1, 1) := by decide +kernel
theorem dX7_claims__61 : decode cX7_claims_ 61 = .ok (.ireturn, 1) := by decide +kernel
theorem dX7_allocate_0 : decode cX7_allocate 0 = .ok (.aload_n 0, 1) := by decide +kernel
theorem dX7_allocate_1 : decode cX7_allocate 1 = .ok (.iconst 0, 1) := by decide +kernel
theorem dX7_allocate_2 : decode cX7_allocate 2 = .ok (.putfield 56, 3) := by decide +kernel
theorem dX7_allocate_5 : decode cX7_allocate 5 = .ok (.aload_n 0, 1) := by decide +kernel
theorem dX7_allocate_6 : decode cX7_allocate 6 = .ok (.invokevirtual 304, 3) := by decide +kernel
theorem dX7_allocate_9 : decode cX7_allocate 9 = .ok (.aload_n 0, 1) := by decide +kernel
theorem dX7_allocate_10 : decode cX7_allocate 10 = .ok (.invokevirtual 307, 3) := by decide +kernel
theorem dX7_allocate_13 : decode cX7_allocate 13 = .ok (.ireturn, 1) := by decide +kernel
theorem dX7_roundOf_0 : decode cX7_roundOf 0 = .ok (.aload_n 0, 1) := by decide +kernel
theorem dX7_roundOf_1 : decode cX7_roundOf 1 = .ok (.iload_n 1, 1) := by decide +kernel
theorem dX7_roundOf_2 : decode cX7_roundOf 2 = .ok (.invokevirtual 286, 3) := by decide +kernel
theorem dX7_roundOf_5 : decode cX7_roundOf 5 = .ok (.ifCond .eq 7, 3) := by decide +kernel
theorem dX7_roundOf_8 : decode cX7_roundOf 8 = .ok (.iconst 0, 1) := by decide +kernel
theorem dX7_roundOf_9 : decode cX7_roundOf 9 = .ok (.goto 13, 3) := by decide +kernel
theorem dX7_roundOf_12 : decode cX7_roundOf 12 = .ok (.aload_n 0, 1) := by decide +kernel
theorem dX7_roundOf_13 : decode cX7_roundOf 13 = .ok (.getfield 7, 3) := by decide +kernel
theorem dX7_roundOf_16 : decode cX7_roundOf 16 = .ok (.sipush 524, 3) := by decide +kernel
theorem dX7_roundOf_19 : decode cX7_roundOf 19 = .ok (.iload_n 1, 1) := by decide +kernel
theorem dX7_roundOf_20 : decode cX7_roundOf 20 = .ok (.iadd, 1) := by decide +kernel
theorem dX7_roundOf_21 : decode cX7_roundOf 21 = .ok (.iaload, 1) := by decide +kernel
theorem dX7_roundOf_22 : decode cX7_roundOf 22 = .ok (.ireturn, 1) := by decide +kernel
theorem dX7_areWishes_0 : decode cX7_areWishes 0 = .ok (.iload_n 1, 1) := by decide +kernel
theorem dX7_areWishes_1 : decode cX7_areWishes 1 = .ok (.iconst 1, 1) := by decide +kernel
theorem dX7_areWishes_2 : decode cX7_areWishes 2 = .ok (.sipush 9999, 3) := by decide +kernel
theorem dX7_areWishes_5 : decode cX7_areWishes 5 = .ok (.invokestatic 66, 3) := by decide +kernel
theorem dX7_areWishes_8 : decode cX7_areWishes 8 = .ok (.ifCond .ne 5, 3) := by decide +kernel
theorem dX7_areWishes_11 : decode cX7_areWishes 11 = .ok (.iconst 0, 1) := by decide +kernel
theorem dX7_areWishes_12 : decode cX7_areWishes 12 = .ok (.ireturn, 1) := by decide +kernel
theorem dX7_areWishes_13 : decode cX7_areWishes 13 = .ok (.iconst 0, 1) := by decide +kernel
theorem dX7_areWishes_14 : decode cX7_areWishes 14 = .ok (.istore_n 2, 1) := by decide +kernel
theorem dX7_areWishes_15 : decode cX7_areWishes 15 = .ok (.iload_n 1, 1) := by decide +kernel
theorem dX7_areWishes_16 : decode cX7_areWishes 16 = .ok (.istore_n 3, 1) := by decide +kernel
theorem dX7_areWishes_17 : decode cX7_areWishes 17 = .ok (.iload_n 3, 1) := by decide +kernel
theorem dX7_areWishes_18 : decode cX7_areWishes 18 = .ok (.ifCond .le 55, 3) := by decide +kernel
theorem dX7_areWishes_21 : decode cX7_areWishes 21 = .ok (.iload_n 3, 1) := by decide +kernel
theorem dX7_areWishes_22 : decode cX7_areWishes 22 = .ok (.bipush 10, 2) := by decide +kernel
theorem dX7_areWishes_24 : decode cX7_areWishes 24 = .ok (.irem, 1) := by decide +kernel
theorem dX7_areWishes_25 : decode cX7_areWishes 25 = .ok (.iconst 1, 1) := by decide +kernel
theorem dX7_areWishes_26 : decode cX7_areWishes 26 = .ok (.isub, 1) := by decide +kernel
theorem dX7_areWishes_27 : decode cX7_areWishes 27 = .ok (.istore 4, 2) := by decide +kernel
theorem dX7_areWishes_29 : decode cX7_areWishes 29 = .ok (.iload 4, 2) := by decide +kernel
theorem dX7_areWishes_31 : decode cX7_areWishes 31 = .ok (.iconst 0, 1) := by decide +kernel
theorem dX7_areWishes_32 : decode cX7_areWishes 32 = .ok (.aload_n 0, 1) := by decide +kernel
theorem dX7_areWishes_33 : decode cX7_areWishes 33 = .ok (.getfield 7, 3) := by decide +kernel
theorem dX7_areWishes_36 : decode cX7_areWishes 36 = .ok (.iconst 0, 1) := by decide +kernel
theorem dX7_areWishes_37 : decode cX7_areWishes 37 = .ok (.iaload, 1) := by decide +kernel
theorem dX7_areWishes_38 : decode cX7_areWishes 38 = .ok (.iconst 1, 1) := by decide +kernel
theorem dX7_areWishes_39 : decode cX7_areWishes 39 = .ok (.isub, 1) := by decide +kernel
theorem dX7_areWishes_40 : decode cX7_areWishes 40 = .ok (.invokestatic 66, 3) := by decide +kernel
theorem dX7_areWishes_43 : decode cX7_areWishes 43 = .ok (.ifCond .eq 13, 3) := by decide +kernel
theorem dX7_areWishes_46 : decode cX7_areWishes 46 = .ok (.iload_n 2, 1) := by decide +kernel
theorem dX7_areWishes_47 : decode cX7_areWishes 47 = .ok (.iload 4, 2) := by decide +kernel
theorem dX7_areWishes_49 : decode cX7_areWishes 49 = .ok (.ishr, 1) := by decide +kernel
theorem dX7_areWishes_50 : decode cX7_areWishes 50 = .ok (.iconst 1, 1) := by decide +kernel
theorem dX7_areWishes_51 : decode cX7_areWishes 51 = .ok (.iand, 1) := by decide +kernel
theorem dX7_areWishes_52 : decode cX7_areWishes 52 = .ok (.iconst 1, 1) := by decide +kernel
theorem dX7_areWishes_53 : decode cX7_areWishes 53 = .ok (.if_icmp .ne 5, 3) := by decide +kernel
theorem dX7_areWishes_56 : decode cX7_areWishes 56 = .ok (.iconst 0, 1) := by decide +kernel
theorem dX7_areWishes_57 : decode cX7_areWishes 57 = .ok (.ireturn, 1) := by decide +kernel
theorem dX7_areWishes_58 : decode cX7_areWishes 58 = .ok (.iload_n 2, 1) := by decide +kernel
theorem dX7_areWishes_59 : decode cX7_areWishes 59 = .ok (.iconst 1, 1) := by decide +kernel
theorem dX7_areWishes_60 : decode cX7_areWishes 60 = .ok (.iload 4, 2) := by decide +kernel
theorem dX7_areWishes_62 : decode cX7_areWishes 62 = .ok (.ishl, 1) := by decide +kernel
theorem dX7_areWishes_63 : decode cX7_areWishes 63 = .ok (.ior, 1) := by decide +kernel
theorem dX7_areWishes_64 : decode cX7_areWishes 64 = .ok (.istore_n 2, 1) := by decide +kernel
theorem dX7_areWishes_65 : decode cX7_areWishes 65 = .ok (.iload_n 3, 1) := by decide +kernel
theorem dX7_areWishes_66 : decode cX7_areWishes 66 = .ok (.bipush 10, 2) := by decide +kernel
theorem dX7_areWishes_68 : decode cX7_areWishes 68 = .ok (.idiv, 1) := by decide +kernel
theorem dX7_areWishes_69 : decode cX7_areWishes 69 = .ok (.istore_n 3, 1) := by decide +kernel
theorem dX7_areWishes_70 : decode cX7_areWishes 70 = .ok (.goto (-53), 3) := by decide +kernel
theorem dX7_areWishes_73 : decode cX7_areWishes 73 = .ok (.iconst 1, 1) := by decide +kernel
theorem dX7_areWishes_74 : decode cX7_areWishes 74 = .ok (.ireturn, 1) := by decide +kernel
theorem dX7_addChild_0 : decode cX7_addChild 0 = .ok (.aload_n 0, 1) := by decide +kernel
theorem dX7_addChild_1 : decode cX7_addChild 1 = .ok (.iconst 0, 1) := by decide +kernel
theorem dX7_addChild_2 : decode cX7_addChild 2 = .ok (.putfield 56, 3) := by decide +kernel
theorem dX7_addChild_5 : decode cX7_addChild 5 = .ok (.iload_n 1, 1) := by decide +kernel
theorem dX7_addChild_6 : decode cX7_addChild 6 = .ok (.iconst 0, 1) := by decide +kernel
theorem dX7_addChild_7 : decode cX7_addChild 7 = .ok (.bipush 99, 2) := by decide +kernel
theorem dX7_addChild_9 : decode cX7_addChild 9 = .ok (.invokestatic 66, 3) := by decide +kernel
theorem dX7_addChild_12 : decode cX7_addChild 12 = .ok (.ifCond .eq 36, 3) := by decide +kernel
theorem dX7_addChild_15 : decode cX7_addChild 15 = .ok (.iload_n 2, 1) := by decide +kernel
theorem dX7_addChild_16 : decode cX7_addChild 16 = .ok (.iconst 0, 1) := by decide +kernel
theorem dX7_addChild_17 : decode cX7_addChild 17 = .ok (.bipush 99, 2) := by decide +kernel
theorem dX7_addChild_19 : decode cX7_addChild 19 = .ok (.invokestatic 66, 3) := by decide +kernel
theorem dX7_addChild_22 : decode cX7_addChild 22 = .ok (.ifCond .eq 26, 3) := by decide +kernel
theorem dX7_addChild_25 : decode cX7_addChild 25 = .ok (.iload_n 3, 1) := by decide +kernel
theorem dX7_addChild_26 : decode cX7_addChild 26 = .ok (.iconst 0, 1) := by decide +kernel
theorem dX7_addChild_27 : decode cX7_addChild 27 = .ok (.bipush 99, 2) := by decide +kernel
theorem dX7_addChild_29 : decode cX7_addChild 29 = .ok (.invokestatic 66, 3) := by decide +kernel
theorem dX7_addChild_32 : decode cX7_addChild 32 = .ok (.ifCond .eq 16, 3) := by decide +kernel
theorem dX7_addChild_35 : decode cX7_addChild 35 = .ok (.aload_n 0, 1) := by decide +kernel
theorem dX7_addChild_36 : decode cX7_addChild 36 = .ok (.iload 5, 2) := by decide +kernel
theorem dX7_addChild_38 : decode cX7_addChild 38 = .ok (.invokevirtual 310, 3) := by decide +kernel
theorem dX7_addChild_41 : decode cX7_addChild 41 = .ok (.ifCond .eq 7, 3) := by decide +kernel
theorem dX7_addChild_44 : decode cX7_addChild 44 = .ok (.iconst 1, 1) := by decide +kernel
theorem dX7_addChild_45 : decode cX7_addChild 45 = .ok (.goto 4, 3) := by decide +kernel
theorem dX7_addChild_48 : decode cX7_addChild 48 = .ok (.iconst 0, 1) := by decide +kernel
theorem dX7_addChild_49 : decode cX7_addChild 49 = .ok (.istore 6, 2) := by decide +kernel
theorem dX7_addChild_51 : decode cX7_addChild 51 = .ok (.aload_n 0, 1) := by decide +kernel
theorem dX7_addChild_52 : decode cX7_addChild 52 = .ok (.iload 6, 2) := by decide +kernel
theorem dX7_addChild_54 : decode cX7_addChild 54 = .ok (.ifCond .ne 7, 3) := by decide +kernel
theorem dX7_addChild_57 : decode cX7_addChild 57 = .ok (.iconst 1, 1) := by decide +kernel
theorem dX7_addChild_58 : decode cX7_addChild 58 = .ok (.goto 4, 3) := by decide +kernel
theorem dX7_addChild_61 : decode cX7_addChild 61 = .ok (.iconst 0, 1) := by decide +kernel
theorem dX7_addChild_62 : decode cX7_addChild 62 = .ok (.iconst 1, 1) := by decide +kernel
theorem dX7_addChild_63 : decode cX7_addChild 63 = .ok (.invokevirtual 279, 3) := by decide +kernel
theorem dX7_addChild_66 : decode cX7_addChild 66 = .ok (.ifCond .ne 27, 3) := by decide +kernel
theorem dX7_addChild_69 : decode cX7_addChild 69 = .ok (.aload_n 0, 1) := by decide +kernel
theorem dX7_addChild_70 : decode cX7_addChild 70 = .ok (.aload_n 0, 1) := by decide +kernel
theorem dX7_addChild_71 : decode cX7_addChild 71 = .ok (.getfield 7, 3) := by decide +kernel
theorem dX7_addChild_74 : decode cX7_addChild 74 = .ok (.iconst 1, 1) := by decide +kernel
theorem dX7_addChild_75 : decode cX7_addChild 75 = .ok (.iaload, 1) := by decide +kernel
theorem dX7_addChild_76 : decode cX7_addChild 76 = .ok (.bipush 40, 2) := by decide +kernel
theorem dX7_addChild_78 : decode cX7_addChild 78 = .ok (.if_icmp .ne 7, 3) := by decide +kernel
theorem dX7_addChild_81 : decode cX7_addChild 81 = .ok (.iconst 1, 1) := by decide +kernel
theorem dX7_addChild_82 : decode cX7_addChild 82 = .ok (.goto 4, 3) := by decide +kernel
theorem dX7_addChild_85 : decode cX7_addChild 85 = .ok (.iconst 0, 1) := by decide +kernel
theorem dX7_addChild_86 : decode cX7_addChild 86 = .ok (.iconst 2, 1) := by decide +kernel
theorem dX7_addChild_87 : decode cX7_addChild 87 = .ok (.invokevirtual 279, 3) := by decide +kernel
theorem dX7_addChild_90 : decode cX7_addChild 90 = .ok (.ifCond .eq 5, 3) := by decide +kernel
theorem dX7_addChild_93 : decode cX7_addChild 93 = .ok (.iconst 0, 1) := by decide +kernel
theorem dX7_addChild_94 : decode cX7_addChild 94 = .ok (.ireturn, 1) := by decide +kernel
theorem dX7_addChild_95 : decode cX7_addChild 95 = .ok (.aload_n 0, 1) := by decide +kernel
theorem dX7_addChild_96 : decode cX7_addChild 96 = .ok (.invokevirtual 304, 3) := by decide +kernel
theorem dX7_addChild_99 : decode cX7_addChild 99 = .ok (.aload_n 0, 1) := by decide +kernel
theorem dX7_addChild_100 : decode cX7_addChild 100 = .ok (.getfield 7, 3) := by decide +kernel
theorem dX7_addChild_103 : decode cX7_addChild 103 = .ok (.iconst 1, 1) := by decide +kernel
theorem dX7_addChild_104 : decode cX7_addChild 104 = .ok (.iaload, 1) := by decide +kernel
theorem dX7_addChild_105 : decode cX7_addChild 105 = .ok (.istore 7, 2) := by decide +kernel
theorem dX7_addChild_107 : decode cX7_addChild 107 = .ok (.aload_n 0, 1) := by decide +kernel
theorem dX7_addChild_108 : decode cX7_addChild 108 = .ok (.getfield 7, 3) := by decide +kernel
theorem dX7_addChild_111 : decode cX7_addChild 111 = .ok (.bipush 124, 2) := by decide +kernel
theorem dX7_addChild_113 : decode cX7_addChild 113 = .ok (.iload 7, 2) := by decide +kernel
theorem dX7_addChild_115 : decode cX7_addChild 115 = .ok (.iadd, 1) := by decide +kernel
theorem dX7_addChild_116 : decode cX7_addChild 116 = .ok (.iload_n 1, 1) := by decide +kernel
theorem dX7_addChild_117 : decode cX7_addChild 117 = .ok (.iastore, 1) := by decide +kernel
theorem dX7_addChild_118 : decode cX7_addChild 118 = .ok (.aload_n 0, 1) := by decide +kernel
theorem dX7_addChild_119 : decode cX7_addChild 119 = .ok (.getfield 7, 3) := by decide +kernel
theorem dX7_addChild_122 : decode cX7_addChild 122 = .ok (.sipush 164, 3) := by decide +kernel
theorem dX7_addChild_125 : decode cX7_addChild 125 = .ok (.iload 7, 2) := by decide +kernel
theorem dX7_addChild_127 : decode cX7_addChild 127 = .ok (.iadd, 1) := by decide +kernel
theorem dX7_addChild_128 : decode cX7_addChild 128 = .ok (.iload_n 2, 1) := by decide +kernel
theorem dX7_addChild_129 : decode cX7_addChild 129 = .ok (.iastore, 1) := by decide +kernel
theorem dX7_addChild_130 : decode cX7_addChild 130 = .ok (.aload_n 0, 1) := by decide +kernel
theorem dX7_addChild_131 : decode cX7_addChild 131 = .ok (.getfield 7, 3) := by decide +kernel
theorem dX7_addChild_134 : decode cX7_addChild 134 = .ok (.sipush 204, 3) := by decide +kernel
theorem dX7_addChild_137 : decode cX7_addChild 137 = .ok (.iload 7, 2) := by decide +kernel
theorem dX7_addChild_139 : decode cX7_addChild 139 = .ok (.iadd, 1) := by decide +kernel
theorem dX7_addChild_140 : decode cX7_addChild 140 = .ok (.iload_n 3, 1) := by decide +kernel
theorem dX7_addChild_141 : decode cX7_addChild 141 = .ok (.iastore, 1) := by decide +kernel
theorem dX7_addChild_142 : decode cX7_addChild 142 = .ok (.aload_n 0, 1) := by decide +kernel
theorem dX7_addChild_143 : decode cX7_addChild 143 = .ok (.getfield 7, 3) := by decide +kernel
theorem dX7_addChild_146 : decode cX7_addChild 146 = .ok (.sipush 244, 3) := by decide +kernel
theorem dX7_addChild_149 : decode cX7_addChild 149 = .ok (.iload 7, 2) := by decide +kernel
theorem dX7_addChild_151 : decode cX7_addChild 151 = .ok (.iadd, 1) := by decide +kernel
theorem dX7_addChild_152 : decode cX7_addChild 152 = .ok (.iload 4, 2) := by decide +kernel
theorem dX7_addChild_154 : decode cX7_addChild 154 = .ok (.ifCond .eq 7, 3) := by decide +kernel
theorem dX7_addChild_157 : decode cX7_addChild 157 = .ok (.iconst 1, 1) := by decide +kernel
theorem dX7_addChild_158 : decode cX7_addChild 158 = .ok (.goto 4, 3) := by decide +kernel
theorem dX7_addChild_161 : decode cX7_addChild 161 = .ok (.iconst 0, 1) := by decide +kernel
theorem dX7_addChild_162 : decode cX7_addChild 162 = .ok (.iastore, 1) := by decide +kernel
theorem dX7_addChild_163 : decode cX7_addChild 163 = .ok (.aload_n 0, 1) := by decide +kernel
theorem dX7_addChild_164 : decode cX7_addChild 164 = .ok (.getfield 7, 3) := by decide +kernel
theorem dX7_addChild_167 : decode cX7_addChild 167 = .ok (.sipush 364, 3) := by decide +kernel
theorem dX7_addChild_170 : decode cX7_addChild 170 = .ok (.iload 7, 2) := by decide +kernel
theorem dX7_addChild_172 : decode cX7_addChild 172 = .ok (.iadd, 1) := by decide +kernel
theorem dX7_addChild_173 : decode cX7_addChild 173 = .ok (.aload_n 0, 1) := by decide +kernel
theorem dX7_addChild_174 : decode cX7_addChild 174 = .ok (.getfield 7, 3) := by decide +kernel
theorem dX7_addChild_177 : decode cX7_addChild 177 = .ok (.bipush 8, 2) := by decide +kernel
theorem dX7_addChild_179 : decode cX7_addChild 179 = .ok (.iaload, 1) := by decide +kernel
theorem dX7_addChild_180 : decode cX7_addChild 180 = .ok (.iastore, 1) := by decide +kernel
theorem dX7_addChild_181 : decode cX7_addChild 181 = .ok (.aload_n 0, 1) := by decide +kernel
theorem dX7_addChild_182 : decode cX7_addChild 182 = .ok (.getfield 7, 3) := by decide +kernel
theorem dX7_addChild_185 : decode cX7_addChild 185 = .ok (.sipush 404, 3) := by decide +kernel
theorem dX7_addChild_188 : decode cX7_addChild 188 = .ok (.iload 7, 2) := by decide +kernel
theorem dX7_addChild_190 : decode cX7_addChild 190 = .ok (.iadd, 1) := by decide +kernel
theorem dX7_addChild_191 : decode cX7_addChild 191 = .ok (.iconst 0, 1) := by decide +kernel
theorem dX7_addChild_192 : decode cX7_addChild 192 = .ok (.iastore, 1) := by decide +kernel
theorem dX7_addChild_193 : decode cX7_addChild 193 = .ok (.aload_n 0, 1) := by decide +kernel
theorem dX7_addChild_194 : decode cX7_addChild 194 = .ok (.getfield 7, 3) := by decide +kernel
theorem dX7_addChild_197 : decode cX7_addChild 197 = .ok (.sipush 524, 3) := by decide +kernel
theorem dX7_addChild_200 : decode cX7_addChild 200 = .ok (.iload 7, 2) := by decide +kernel
theorem dX7_addChild_202 : decode cX7_addChild 202 = .ok (.iadd, 1) := by decide +kernel
theorem dX7_addChild_203 : decode cX7_addChild 203 = .ok (.iconst 0, 1) := by decide +kernel
theorem dX7_addChild_204 : decode cX7_addChild 204 = .ok (.iastore, 1) := by decide +kernel
theorem dX7_addChild_205 : decode cX7_addChild 205 = .ok (.aload_n 0, 1) := by decide +kernel
theorem dX7_addChild_206 : decode cX7_addChild 206 = .ok (.iload 7, 2) := by decide +kernel
theorem dX7_addChild_208 : decode cX7_addChild 208 = .ok (.iconst (-1), 1) := by decide +kernel
theorem dX7_addChild_209 : decode cX7_addChild 209 = .ok (.iconst 0, 1) := by decide +kernel
theorem dX7_addChild_210 : decode cX7_addChild 210 = .ok (.invokevirtual 125, 3) := by decide +kernel
theorem dX7_addChild_213 : decode cX7_addChild 213 = .ok (.iconst 1, 1) := by decide +kernel
theorem dX7_addChild_214 : decode cX7_addChild 214 = .ok (.istore 8, 2) := by decide +kernel
theorem dX7_addChild_216 : decode cX7_addChild 216 = .ok (.iload 5, 2) := by decide +kernel
theorem dX7_addChild_218 : decode cX7_addChild 218 = .ok (.iload 8, 2) := by decide +kernel
theorem dX7_addChild_220 : decode cX7_addChild 220 = .ok (.idiv, 1) := by decide +kernel
theorem dX7_addChild_221 : decode cX7_addChild 221 = .ok (.bipush 9, 2) := by decide +kernel
theorem dX7_addChild_223 : decode cX7_addChild 223 = .ok (.if_icmp .le 13, 3) := by decide +kernel
theorem dX7_addChild_226 : decode cX7_addChild 226 = .ok (.iload 8, 2) := by decide +kernel
theorem dX7_addChild_228 : decode cX7_addChild 228 = .ok (.bipush 10, 2) := by decide +kernel
theorem dX7_addChild_230 : decode cX7_addChild 230 = .ok (.imul, 1) := by decide +kernel
theorem dX7_addChild_231 : decode cX7_addChild 231 = .ok (.istore 8, 2) := by decide +kernel
theorem dX7_addChild_233 : decode cX7_addChild 233 = .ok (.goto (-17), 3) := by decide +kernel
theorem dX7_addChild_236 : decode cX7_addChild 236 = .ok (.aload_n 0, 1) := by decide +kernel
theorem dX7_addChild_237 : decode cX7_addChild 237 = .ok (.getfield 7, 3) := by decide +kernel
theorem dX7_addChild_240 : decode cX7_addChild 240 = .ok (.sipush 324, 3) := by decide +kernel
theorem dX7_addChild_243 : decode cX7_addChild 243 = .ok (.iload 7, 2) := by decide +kernel
theorem dX7_addChild_245 : decode cX7_addChild 245 = .ok (.iadd, 1) := by decide +kernel
theorem dX7_addChild_246 : decode cX7_addChild 246 = .ok (.iconst 0, 1) := by decide +kernel
theorem dX7_addChild_247 : decode cX7_addChild 247 = .ok (.iastore, 1) := by decide +kernel
theorem dX7_addChild_248 : decode cX7_addChild 248 = .ok (.iload 8, 2) := by decide +kernel
theorem dX7_addChild_250 : decode cX7_addChild 250 = .ok (.ifCond .le 63, 3) := by decide +kernel
theorem dX7_addChild_253 : decode cX7_addChild 253 = .ok (.aload_n 0, 1) := by decide +kernel
theorem dX7_addChild_254 : decode cX7_addChild 254 = .ok (.getfield 7, 3) := by decide +kernel
theorem dX7_addChild_257 : decode cX7_addChild 257 = .ok (.sipush 564, 3) := by decide +kernel
theorem dX7_addChild_260 : decode cX7_addChild 260 = .ok (.iconst 4, 1) := by decide +kernel
theorem dX7_addChild_261 : decode cX7_addChild 261 = .ok (.iload 7, 2) := by decide +kernel
theorem dX7_addChild_263 : decode cX7_addChild 263 = .ok (.imul, 1) := by decide +kernel
theorem dX7_addChild_264 : decode cX7_addChild 264 = .ok (.iadd, 1) := by decide +kernel
theorem dX7_addChild_265 : decode cX7_addChild 265 = .ok (.aload_n 0, 1) := by decide +kernel
theorem dX7_addChild_266 : decode cX7_addChild 266 = .ok (.getfield 7, 3) := by decide +kernel
theorem dX7_addChild_269 : decode cX7_addChild 269 = .ok (.sipush 324, 3) := by decide +kernel
theorem dX7_addChild_272 : decode cX7_addChild 272 = .ok (.iload 7, 2) := by decide +kernel
theorem dX7_addChild_274 : decode cX7_addChild 274 = .ok (.iadd, 1) := by decide +kernel
theorem dX7_addChild_275 : decode cX7_addChild 275 = .ok (.iaload, 1) := by decide +kernel
theorem dX7_addChild_276 : decode cX7_addChild 276 = .ok (.iadd, 1) := by decide +kernel
theorem dX7_addChild_277 : decode cX7_addChild 277 = .ok (.iload 5, 2) := by decide +kernel
theorem dX7_addChild_279 : decode cX7_addChild 279 = .ok (.iload 8, 2) := by decide +kernel
theorem dX7_addChild_281 : decode cX7_addChild 281 = .ok (.idiv, 1) := by decide +kernel
theorem dX7_addChild_282 : decode cX7_addChild 282 = .ok (.bipush 10, 2) := by decide +kernel
theorem dX7_addChild_284 : decode cX7_addChild 284 = .ok (.irem, 1) := by decide +kernel
theorem dX7_addChild_285 : decode cX7_addChild 285 = .ok (.iconst 1, 1) := by decide +kernel
theorem dX7_addChild_286 : decode cX7_addChild 286 = .ok (.isub, 1) := by decide +kernel
theorem dX7_addChild_287 : decode cX7_addChild 287 = .ok (.iastore, 1) := by decide +kernel
theorem dX7_addChild_288 : decode cX7_addChild 288 = .ok (.aload_n 0, 1) := by decide +kernel
theorem dX7_addChild_289 : decode cX7_addChild 289 = .ok (.getfield 7, 3) := by decide +kernel
theorem dX7_addChild_292 : decode cX7_addChild 292 = .ok (.sipush 324, 3) := by decide +kernel
theorem dX7_addChild_295 : decode cX7_addChild 295 = .ok (.iload 7, 2) := by decide +kernel
theorem dX7_addChild_297 : decode cX7_addChild 297 = .ok (.iadd, 1) := by decide +kernel
theorem dX7_addChild_298 : decode cX7_addChild 298 = .ok (.dup2, 1) := by decide +kernel
theorem dX7_addChild_299 : decode cX7_addChild 299 = .ok (.iaload, 1) := by decide +kernel
theorem dX7_addChild_300 : decode cX7_addChild 300 = .ok (.iconst 1, 1) := by decide +kernel
theorem dX7_addChild_301 : decode cX7_addChild 301 = .ok (.iadd, 1) := by decide +kernel
theorem dX7_addChild_302 : decode cX7_addChild 302 = .ok (.iastore, 1) := by decide +kernel
theorem dX7_addChild_303 : decode cX7_addChild 303 = .ok (.iload 8, 2) := by decide +kernel
theorem dX7_addChild_305 : decode cX7_addChild 305 = .ok (.bipush 10, 2) := by decide +kernel
theorem dX7_addChild_307 : decode cX7_addChild 307 = .ok (.idiv, 1) := by decide +kernel
theorem dX7_addChild_308 : decode cX7_addChild 308 = .ok (.istore 8, 2) := by decide +kernel
theorem dX7_addChild_310 : decode cX7_addChild 310 = .ok (.goto (-62), 3) := by decide +kernel
theorem dX7_addChild_313 : decode cX7_addChild 313 = .ok (.aload_n 0, 1) := by decide +kernel
theorem dX7_addChild_314 : decode cX7_addChild 314 = .ok (.iload 7, 2) := by decide +kernel
theorem dX7_addChild_316 : decode cX7_addChild 316 = .ok (.invokevirtual 242, 3) := by decide +kernel
theorem dX7_addChild_319 : decode cX7_addChild 319 = .ok (.aload_n 0, 1) := by decide +kernel
theorem dX7_addChild_320 : decode cX7_addChild 320 = .ok (.getfield 7, 3) := by decide +kernel
theorem dX7_addChild_323 : decode cX7_addChild 323 = .ok (.iconst 1, 1) := by decide +kernel
theorem dX7_addChild_324 : decode cX7_addChild 324 = .ok (.dup2, 1) := by decide +kernel
theorem dX7_addChild_325 : decode cX7_addChild 325 = .ok (.iaload, 1) := by decide +kernel
theorem dX7_addChild_326 : decode cX7_addChild 326 = .ok (.iconst 1, 1) := by decide +kernel
theorem dX7_addChild_327 : decode cX7_addChild 327 = .ok (.iadd, 1) := by decide +kernel
theorem dX7_addChild_328 : decode cX7_addChild 328 = .ok (.iastore, 1) := by decide +kernel
theorem dX7_addChild_329 : decode cX7_addChild 329 = .ok (.aload_n 0, 1) := by decide +kernel
theorem dX7_addChild_330 : decode cX7_addChild 330 = .ok (.invokevirtual 313, 3) := by decide +kernel
theorem dX7_addChild_333 : decode cX7_addChild 333 = .ok (.iload 7, 2) := by decide +kernel
theorem dX7_addChild_335 : decode cX7_addChild 335 = .ok (.ireturn, 1) := by decide +kernel
theorem dX7_goes_0 : decode cX7_goes 0 = .ok (.aload_n 0, 1) := by decide +kernel
theorem dX7_goes_1 : decode cX7_goes 1 = .ok (.iload_n 1, 1) := by decide +kernel
theorem dX7_goes_2 : decode cX7_goes 2 = .ok (.iconst (-1), 1) := by decide +kernel
theorem dX7_goes_3 : decode cX7_goes 3 = .ok (.iconst 0, 1) := by decide +kernel
theorem dX7_goes_4 : decode cX7_goes 4 = .ok (.invokevirtual 125, 3) := by decide +kernel
theorem dX7_goes_7 : decode cX7_goes 7 = .ok (.aload_n 0, 1) := by decide +kernel
theorem dX7_goes_8 : decode cX7_goes 8 = .ok (.getfield 7, 3) := by decide +kernel
theorem dX7_goes_11 : decode cX7_goes 11 = .ok (.sipush 404, 3) := by decide +kernel
theorem dX7_goes_14 : decode cX7_goes 14 = .ok (.iload_n 1, 1) := by decide +kernel
theorem dX7_goes_15 : decode cX7_goes 15 = .ok (.iadd, 1) := by decide +kernel
theorem dX7_goes_16 : decode cX7_goes 16 = .ok (.iconst 1, 1) := by decide +kernel
theorem dX7_goes_17 : decode cX7_goes 17 = .ok (.iastore, 1) := by decide +kernel
theorem dX7_goes_18 : decode cX7_goes 18 = .ok (.return_, 1) := by decide +kernel
theorem dX7_withdraw_0 : decode cX7_withdraw 0 = .ok (.aload_n 0, 1) := by decide +kernel
theorem dX7_withdraw_1 : decode cX7_withdraw 1 = .ok (.iload_n 1, 1) := by decide +kernel
theorem dX7_withdraw_2 : decode cX7_withdraw 2 = .ok (.invokevirtual 286, 3) := by decide +kernel
theorem dX7_withdraw_5 : decode cX7_withdraw 5 = .ok (.ifCond .ne 24, 3) := by decide +kernel
theorem dX7_withdraw_8 : decode cX7_withdraw 8 = .ok (.aload_n 0, 1) := by decide +kernel
theorem dX7_withdraw_9 : decode cX7_withdraw 9 = .ok (.aload_n 0, 1) := by decide +kernel
theorem dX7_withdraw_10 : decode cX7_withdraw 10 = .ok (.iload_n 1, 1) := by decide +kernel
theorem dX7_withdraw_11 : decode cX7_withdraw 11 = .ok (.invokevirtual 90, 3) := by decide +kernel
theorem dX7_withdraw_14 : decode cX7_withdraw 14 = .ok (.ifCond .ne 7, 3) := by decide +kernel
theorem dX7_withdraw_17 : decode cX7_withdraw 17 = .ok (.iconst 1, 1) := by decide +kernel
theorem dX7_withdraw_18 : decode cX7_withdraw 18 = .ok (.goto 4, 3) := by decide +kernel
theorem dX7_withdraw_21 : decode cX7_withdraw 21 = .ok (.iconst 0, 1) := by decide +kernel
theorem dX7_withdraw_22 : decode cX7_withdraw 22 = .ok (.iconst 2, 1) := by decide +kernel
theorem dX7_withdraw_23 : decode cX7_withdraw 23 = .ok (.invokevirtual 279, 3) := by decide +kernel
theorem dX7_withdraw_26 : decode cX7_withdraw 26 = .ok (.ifCond .eq 5, 3) := by decide +kernel
theorem dX7_withdraw_29 : decode cX7_withdraw 29 = .ok (.iconst 0, 1) := by decide +kernel
theorem dX7_withdraw_30 : decode cX7_withdraw 30 = .ok (.ireturn, 1) := by decide +kernel
theorem dX7_withdraw_31 : decode cX7_withdraw 31 = .ok (.aload_n 0, 1) := by decide +kernel
theorem dX7_withdraw_32 : decode cX7_withdraw 32 = .ok (.invokevirtual 304, 3) := by decide +kernel
theorem dX7_withdraw_35 : decode cX7_withdraw 35 = .ok (.aload_n 0, 1) := by decide +kernel
theorem dX7_withdraw_36 : decode cX7_withdraw 36 = .ok (.getfield 7, 3) := by decide +kernel
theorem dX7_withdraw_39 : decode cX7_withdraw 39 = .ok (.sipush 484, 3) := by decide +kernel
theorem dX7_withdraw_42 : decode cX7_withdraw 42 = .ok (.iload_n 1, 1) := by decide +kernel
theorem dX7_withdraw_43 : decode cX7_withdraw 43 = .ok (.iadd, 1) := by decide +kernel
theorem dX7_withdraw_44 : decode cX7_withdraw 44 = .ok (.iaload, 1) := by decide +kernel
theorem dX7_withdraw_45 : decode cX7_withdraw 45 = .ok (.istore_n 2, 1) := by decide +kernel
theorem dX7_withdraw_46 : decode cX7_withdraw 46 = .ok (.aload_n 0, 1) := by decide +kernel
theorem dX7_withdraw_47 : decode cX7_withdraw 47 = .ok (.iload_n 1, 1) := by decide +kernel
theorem dX7_withdraw_48 : decode cX7_withdraw 48 = .ok (.invokevirtual 316, 3) := by decide +kernel
theorem dX7_withdraw_51 : decode cX7_withdraw 51 = .ok (.aload_n 0, 1) := by decide +kernel
theorem dX7_withdraw_52 : decode cX7_withdraw 52 = .ok (.invokevirtual 313, 3) := by decide +kernel
theorem dX7_withdraw_55 : decode cX7_withdraw 55 = .ok (.iload_n 2, 1) := by decide +kernel
theorem dX7_withdraw_56 : decode cX7_withdraw 56 = .ok (.ireturn, 1) := by decide +kernel
theorem dX7_giveBack_0 : decode cX7_giveBack 0 = .ok (.aload_n 0, 1) := by decide +kernel
theorem dX7_giveBack_1 : decode cX7_giveBack 1 = .ok (.iload_n 1, 1) := by decide +kernel
theorem dX7_giveBack_2 : decode cX7_giveBack 2 = .ok (.invokevirtual 286, 3) := by decide +kernel
theorem dX7_giveBack_5 : decode cX7_giveBack 5 = .ok (.ifCond .ne 30, 3) := by decide +kernel
theorem dX7_giveBack_8 : decode cX7_giveBack 8 = .ok (.aload_n 0, 1) := by decide +kernel
theorem dX7_giveBack_9 : decode cX7_giveBack 9 = .ok (.aload_n 0, 1) := by decide +kernel
theorem dX7_giveBack_10 : decode cX7_giveBack 10 = .ok (.getfield 7, 3) := by decide +kernel
theorem dX7_giveBack_13 : decode cX7_giveBack 13 = .ok (.sipush 484, 3) := by decide +kernel
theorem dX7_giveBack_16 : decode cX7_giveBack 16 = .ok (.iload_n 1, 1) := by decide +kernel
theorem dX7_giveBack_17 : decode cX7_giveBack 17 = .ok (.iadd, 1) := by decide +kernel
theorem dX7_giveBack_18 : decode cX7_giveBack 18 = .ok (.iaload, 1) := by decide +kernel
theorem dX7_giveBack_19 : decode cX7_giveBack 19 = .ok (.iconst (-1), 1) := by decide +kernel
theorem dX7_giveBack_20 : decode cX7_giveBack 20 = .ok (.if_icmp .ne 7, 3) := by decide +kernel
theorem dX7_giveBack_23 : decode cX7_giveBack 23 = .ok (.iconst 1, 1) := by decide +kernel
theorem dX7_giveBack_24 : decode cX7_giveBack 24 = .ok (.goto 4, 3) := by decide +kernel
theorem dX7_giveBack_27 : decode cX7_giveBack 27 = .ok (.iconst 0, 1) := by decide +kernel
theorem dX7_giveBack_28 : decode cX7_giveBack 28 = .ok (.iconst 2, 1) := by decide +kernel
theorem dX7_giveBack_29 : decode cX7_giveBack 29 = .ok (.invokevirtual 279, 3) := by decide +kernel
theorem dX7_giveBack_32 : decode cX7_giveBack 32 = .ok (.ifCond .eq 5, 3) := by decide +kernel
theorem dX7_giveBack_35 : decode cX7_giveBack 35 = .ok (.iconst 0, 1) := by decide +kernel
theorem dX7_giveBack_36 : decode cX7_giveBack 36 = .ok (.ireturn, 1) := by decide +kernel
theorem dX7_giveBack_37 : decode cX7_giveBack 37 = .ok (.aload_n 0, 1) := by decide +kernel
theorem dX7_giveBack_38 : decode cX7_giveBack 38 = .ok (.invokevirtual 304, 3) := by decide +kernel
theorem dX7_giveBack_41 : decode cX7_giveBack 41 = .ok (.aload_n 0, 1) := by decide +kernel
theorem dX7_giveBack_42 : decode cX7_giveBack 42 = .ok (.getfield 7, 3) := by decide +kernel
theorem dX7_giveBack_45 : decode cX7_giveBack 45 = .ok (.sipush 484, 3) := by decide +kernel
theorem dX7_giveBack_48 : decode cX7_giveBack 48 = .ok (.iload_n 1, 1) := by decide +kernel
theorem dX7_giveBack_49 : decode cX7_giveBack 49 = .ok (.iadd, 1) := by decide +kernel
theorem dX7_giveBack_50 : decode cX7_giveBack 50 = .ok (.iaload, 1) := by decide +kernel
theorem dX7_giveBack_51 : decode cX7_giveBack 51 = .ok (.istore_n 2, 1) := by decide +kernel
theorem dX7_giveBack_52 : decode cX7_giveBack 52 = .ok (.aload_n 0, 1) := by decide +kernel
theorem dX7_giveBack_53 : decode cX7_giveBack 53 = .ok (.iload_n 1, 1) := by decide +kernel
theorem dX7_giveBack_54 : decode cX7_giveBack 54 = .ok (.invokevirtual 94, 3) := by decide +kernel
theorem dX7_giveBack_57 : decode cX7_giveBack 57 = .ok (.istore_n 3, 1) := by decide +kernel
theorem dX7_giveBack_58 : decode cX7_giveBack 58 = .ok (.iload_n 3, 1) := by decide +kernel
theorem dX7_giveBack_59 : decode cX7_giveBack 59 = .ok (.ifCond .ne 11, 3) := by decide +kernel
theorem dX7_giveBack_62 : decode cX7_giveBack 62 = .ok (.aload_n 0, 1) := by decide +kernel
theorem dX7_giveBack_63 : decode cX7_giveBack 63 = .ok (.iload_n 1, 1) := by decide +kernel
theorem dX7_giveBack_64 : decode cX7_giveBack 64 = .ok (.invokevirtual 316, 3) := by decide +kernel
theorem dX7_giveBack_67 : decode cX7_giveBack 67 = .ok (.goto 21, 3) := by decide +kernel
theorem dX7_giveBack_70 : decode cX7_giveBack 70 = .ok (.aload_n 0, 1) := by decide +kernel
theorem dX7_giveBack_71 : decode cX7_giveBack 71 = .ok (.getfield 7, 3) := by decide +kernel
theorem dX7_giveBack_74 : decode cX7_giveBack 74 = .ok (.sipush 324, 3) := by decide +kernel
theorem dX7_giveBack_77 : decode cX7_giveBack 77 = .ok (.iload_n 1, 1) := by decide +kernel
theorem dX7_giveBack_78 : decode cX7_giveBack 78 = .ok (.iadd, 1) := by decide +kernel
theorem dX7_giveBack_79 : decode cX7_giveBack 79 = .ok (.iload_n 3, 1) := by decide +kernel
theorem dX7_giveBack_80 : decode cX7_giveBack 80 = .ok (.iastore, 1) := by decide +kernel
theorem dX7_giveBack_81 : decode cX7_giveBack 81 = .ok (.aload_n 0, 1) := by decide +kernel
theorem dX7_giveBack_82 : decode cX7_giveBack 82 = .ok (.iload_n 1, 1) := by decide +kernel
theorem dX7_giveBack_83 : decode cX7_giveBack 83 = .ok (.iconst (-1), 1) := by decide +kernel
theorem dX7_giveBack_84 : decode cX7_giveBack 84 = .ok (.iconst 0, 1) := by decide +kernel
theorem dX7_giveBack_85 : decode cX7_giveBack 85 = .ok (.invokevirtual 125, 3) := by decide +kernel
theorem dX7_giveBack_88 : decode cX7_giveBack 88 = .ok (.aload_n 0, 1) := by decide +kernel
theorem dX7_giveBack_89 : decode cX7_giveBack 89 = .ok (.invokevirtual 313, 3) := by decide +kernel
theorem dX7_giveBack_92 : decode cX7_giveBack 92 = .ok (.iload_n 2, 1) := by decide +kernel
theorem dX7_giveBack_93 : decode cX7_giveBack 93 = .ok (.ireturn, 1) := by decide +kernel
theorem dX7_moveHome_0 : decode cX7_moveHome 0 = .ok (.aload_n 0, 1) := by decide +kernel
theorem dX7_moveHome_1 : decode cX7_moveHome 1 = .ok (.iload_n 1, 1) := by decide +kernel
theorem dX7_moveHome_2 : decode cX7_moveHome 2 = .ok (.invokevirtual 286, 3) := by decide +kernel
theorem dX7_moveHome_5 : decode cX7_moveHome 5 = .ok (.ifCond .ne 36, 3) := by decide +kernel
theorem dX7_moveHome_8 : decode cX7_moveHome 8 = .ok (.aload_n 0, 1) := by decide +kernel
theorem dX7_moveHome_9 : decode cX7_moveHome 9 = .ok (.iload_n 2, 1) := by decide +kernel
theorem dX7_moveHome_10 : decode cX7_moveHome 10 = .ok (.iconst 0, 1) := by decide +kernel
theorem dX7_moveHome_11 : decode cX7_moveHome 11 = .ok (.bipush 99, 2) := by decide +kernel
theorem dX7_moveHome_13 : decode cX7_moveHome 13 = .ok (.invokestatic 66, 3) := by decide +kernel
theorem dX7_moveHome_16 : decode cX7_moveHome 16 = .ok (.ifCond .eq 13, 3) := by decide +kernel
theorem dX7_moveHome_19 : decode cX7_moveHome 19 = .ok (.iload_n 3, 1) := by decide +kernel
theorem dX7_moveHome_20 : decode cX7_moveHome 20 = .ok (.iconst 0, 1) := by decide +kernel
theorem dX7_moveHome_21 : decode cX7_moveHome 21 = .ok (.bipush 99, 2) := by decide +kernel
theorem dX7_moveHome_23 : decode cX7_moveHome 23 = .ok (.invokestatic 66, 3) := by decide +kernel
theorem dX7_moveHome_26 : decode cX7_moveHome 26 = .ok (.ifCond .ne 7, 3) := by decide +kernel
theorem dX7_moveHome_29 : decode cX7_moveHome 29 = .ok (.iconst 1, 1) := by decide +kernel
theorem dX7_moveHome_30 : decode cX7_moveHome 30 = .ok (.goto 4, 3) := by decide +kernel
theorem dX7_moveHome_33 : decode cX7_moveHome 33 = .ok (.iconst 0, 1) := by decide +kernel
theorem dX7_moveHome_34 : decode cX7_moveHome 34 = .ok (.iconst 2, 1) := by decide +kernel
theorem dX7_moveHome_35 : decode cX7_moveHome 35 = .ok (.invokevirtual 279, 3) := by decide +kernel
theorem dX7_moveHome_38 : decode cX7_moveHome 38 = .ok (.ifCond .eq 5, 3) := by decide +kernel
theorem dX7_moveHome_41 : decode cX7_moveHome 41 = .ok (.iconst 0, 1) := by decide +kernel
theorem dX7_moveHome_42 : decode cX7_moveHome 42 = .ok (.ireturn, 1) := by decide +kernel
theorem dX7_moveHome_43 : decode cX7_moveHome 43 = .ok (.aload_n 0, 1) := by decide +kernel
theorem dX7_moveHome_44 : decode cX7_moveHome 44 = .ok (.invokevirtual 304, 3) := by decide +kernel
theorem dX7_moveHome_47 : decode cX7_moveHome 47 = .ok (.iconst 0, 1) := by decide +kernel
theorem dX7_moveHome_48 : decode cX7_moveHome 48 = .ok (.istore 4, 2) := by decide +kernel
theorem dX7_moveHome_50 : decode cX7_moveHome 50 = .ok (.iload 4, 2) := by decide +kernel
theorem dX7_moveHome_52 : decode cX7_moveHome 52 = .ok (.aload_n 0, 1) := by decide +kernel
theorem dX7_moveHome_53 : decode cX7_moveHome 53 = .ok (.getfield 7, 3) := by decide +kernel
theorem dX7_moveHome_56 : decode cX7_moveHome 56 = .ok (.sipush 324, 3) := by decide +kernel
theorem dX7_moveHome_59 : decode cX7_moveHome 59 = .ok (.iload_n 1, 1) := by decide +kernel
theorem dX7_moveHome_60 : decode cX7_moveHome 60 = .ok (.iadd, 1) := by decide +kernel
theorem dX7_moveHome_61 : decode cX7_moveHome 61 = .ok (.iaload, 1) := by decide +kernel
theorem dX7_moveHome_62 : decode cX7_moveHome 62 = .ok (.if_icmp .ge 36, 3) := by decide +kernel
theorem dX7_moveHome_65 : decode cX7_moveHome 65 = .ok (.aload_n 0, 1) := by decide +kernel
theorem dX7_moveHome_66 : decode cX7_moveHome 66 = .ok (.getfield 41, 3) := by decide +kernel
theorem dX7_moveHome_69 : decode cX7_moveHome 69 = .ok (.iload 4, 2) := by decide +kernel
theorem dX7_moveHome_71 : decode cX7_moveHome 71 = .ok (.aload_n 0, 1) := by decide +kernel
theorem dX7_moveHome_72 : decode cX7_moveHome 72 = .ok (.iload_n 1, 1) := by decide +kernel
theorem dX7_moveHome_73 : decode cX7_moveHome 73 = .ok (.aload_n 0, 1) := by decide +kernel
theorem dX7_moveHome_74 : decode cX7_moveHome 74 = .ok (.getfield 7, 3) := by decide +kernel
theorem dX7_moveHome_77 : decode cX7_moveHome 77 = .ok (.sipush 564, 3) := by decide +kernel
theorem dX7_moveHome_80 : decode cX7_moveHome 80 = .ok (.iconst 4, 1) := by decide +kernel
theorem dX7_moveHome_81 : decode cX7_moveHome 81 = .ok (.iload_n 1, 1) := by decide +kernel
theorem dX7_moveHome_82 : decode cX7_moveHome 82 = .ok (.imul, 1) := by decide +kernel
theorem dX7_moveHome_83 : decode cX7_moveHome 83 = .ok (.iadd, 1) := by decide +kernel
theorem dX7_moveHome_84 : decode cX7_moveHome 84 = .ok (.iload 4, 2) := by decide +kernel
theorem dX7_moveHome_86 : decode cX7_moveHome 86 = .ok (.iadd, 1) := by decide +kernel
theorem dX7_moveHome_87 : decode cX7_moveHome 87 = .ok (.iaload, 1) := by decide +kernel
theorem dX7_moveHome_88 : decode cX7_moveHome 88 = .ok (.invokevirtual 80, 3) := by decide +kernel
theorem dX7_moveHome_91 : decode cX7_moveHome 91 = .ok (.iastore, 1) := by decide +kernel
theorem dX7_moveHome_92 : decode cX7_moveHome 92 = .ok (.iinc 4 1, 3) := by decide +kernel
theorem dX7_moveHome_95 : decode cX7_moveHome 95 = .ok (.goto (-45), 3) := by decide +kernel
theorem dX7_moveHome_98 : decode cX7_moveHome 98 = .ok (.aload_n 0, 1) := by decide +kernel
theorem dX7_moveHome_99 : decode cX7_moveHome 99 = .ok (.getfield 7, 3) := by decide +kernel
theorem dX7_moveHome_102 : decode cX7_moveHome 102 = .ok (.bipush 124, 2) := by decide +kernel
theorem dX7_moveHome_104 : decode cX7_moveHome 104 = .ok (.iload_n 1, 1) := by decide +kernel
theorem dX7_moveHome_105 : decode cX7_moveHome 105 = .ok (.iadd, 1) := by decide +kernel
theorem dX7_moveHome_106 : decode cX7_moveHome 106 = .ok (.iload_n 2, 1) := by decide +kernel
theorem dX7_moveHome_107 : decode cX7_moveHome 107 = .ok (.iastore, 1) := by decide +kernel
theorem dX7_moveHome_108 : decode cX7_moveHome 108 = .ok (.aload_n 0, 1) := by decide +kernel
theorem dX7_moveHome_109 : decode cX7_moveHome 109 = .ok (.getfield 7, 3) := by decide +kernel
theorem dX7_moveHome_112 : decode cX7_moveHome 112 = .ok (.sipush 164, 3) := by decide +kernel
theorem dX7_moveHome_115 : decode cX7_moveHome 115 = .ok (.iload_n 1, 1) := by decide +kernel
theorem dX7_moveHome_116 : decode cX7_moveHome 116 = .ok (.iadd, 1) := by decide +kernel
theorem dX7_moveHome_117 : decode cX7_moveHome 117 = .ok (.iload_n 3, 1) := by decide +kernel
theorem dX7_moveHome_118 : decode cX7_moveHome 118 = .ok (.iastore, 1) := by decide +kernel
theorem dX7_moveHome_119 : decode cX7_moveHome 119 = .ok (.iconst 0, 1) := by decide +kernel
theorem dX7_moveHome_120 : decode cX7_moveHome 120 = .ok (.istore 4, 2) := by decide +kernel
theorem dX7_moveHome_122 : decode cX7_moveHome 122 = .ok (.iconst 0, 1) := by decide +kernel
theorem dX7_moveHome_123 : decode cX7_moveHome 123 = .ok (.istore 5, 2) := by decide +kernel
theorem dX7_moveHome_125 : decode cX7_moveHome 125 = .ok (.iload 5, 2) := by decide +kernel
theorem dX7_moveHome_127 : decode cX7_moveHome 127 = .ok (.aload_n 0, 1) := by decide +kernel
theorem dX7_moveHome_128 : decode cX7_moveHome 128 = .ok (.getfield 7, 3) := by decide +kernel
theorem dX7_moveHome_131 : decode cX7_moveHome 131 = .ok (.sipush 324, 3) := by decide +kernel
theorem dX7_moveHome_134 : decode cX7_moveHome 134 = .ok (.iload_n 1, 1) := by decide +kernel
theorem dX7_moveHome_135 : decode cX7_moveHome 135 = .ok (.iadd, 1) := by decide +kernel
theorem dX7_moveHome_136 : decode cX7_moveHome 136 = .ok (.iaload, 1) := by decide +kernel
theorem dX7_moveHome_137 : decode cX7_moveHome 137 = .ok (.if_icmp .ge 49, 3) := by decide +kernel
theorem dX7_moveHome_140 : decode cX7_moveHome 140 = .ok (.iload 4, 2) := by decide +kernel
theorem dX7_moveHome_142 : decode cX7_moveHome 142 = .ok (.aload_n 0, 1) := by decide +kernel
theorem dX7_moveHome_143 : decode cX7_moveHome 143 = .ok (.getfield 41, 3) := by decide +kernel
theorem dX7_moveHome_146 : decode cX7_moveHome 146 = .ok (.iload 5, 2) := by decide +kernel
theorem dX7_moveHome_148 : decode cX7_moveHome 148 = .ok (.iaload, 1) := by decide +kernel
theorem dX7_moveHome_149 : decode cX7_moveHome 149 = .ok (.aload_n 0, 1) := by decide +kernel
theorem dX7_moveHome_150 : decode cX7_moveHome 150 = .ok (.iload_n 1, 1) := by decide +kernel
theorem dX7_moveHome_151 : decode cX7_moveHome 151 = .ok (.aload_n 0, 1) := by decide +kernel
theorem dX7_moveHome_152 : decode cX7_moveHome 152 = .ok (.getfield 7, 3) := by decide +kernel
theorem dX7_moveHome_155 : decode cX7_moveHome 155 = .ok (.sipush 564, 3) := by decide +kernel
theorem dX7_moveHome_158 : decode cX7_moveHome 158 = .ok (.iconst 4, 1) := by decide +kernel
theorem dX7_moveHome_159 : decode cX7_moveHome 159 = .ok (.iload_n 1, 1) := by decide +kernel
theorem dX7_moveHome_160 : decode cX7_moveHome 160 = .ok (.imul, 1) := by decide +kernel
theorem dX7_moveHome_161 : decode cX7_moveHome 161 = .ok (.iadd, 1) := by decide +kernel
theorem dX7_moveHome_162 : decode cX7_moveHome 162 = .ok (.iload 5, 2) := by decide +kernel
theorem dX7_moveHome_164 : decode cX7_moveHome 164 = .ok (.iadd, 1) := by decide +kernel
theorem dX7_moveHome_165 : decode cX7_moveHome 165 = .ok (.iaload, 1) := by decide +kernel
theorem dX7_moveHome_166 : decode cX7_moveHome 166 = .ok (.invokevirtual 80, 3) := by decide +kernel
theorem dX7_moveHome_169 : decode cX7_moveHome 169 = .ok (.if_icmp .eq 7, 3) := by decide +kernel
theorem dX7_moveHome_172 : decode cX7_moveHome 172 = .ok (.iconst 1, 1) := by decide +kernel
theorem dX7_moveHome_173 : decode cX7_moveHome 173 = .ok (.goto 4, 3) := by decide +kernel
theorem dX7_moveHome_176 : decode cX7_moveHome 176 = .ok (.iconst 0, 1) := by decide +kernel
theorem dX7_moveHome_177 : decode cX7_moveHome 177 = .ok (.iadd, 1) := by decide +kernel
theorem dX7_moveHome_178 : decode cX7_moveHome 178 = .ok (.istore 4, 2) := by decide +kernel
theorem dX7_moveHome_180 : decode cX7_moveHome 180 = .ok (.iinc 5 1, 3) := by decide +kernel
theorem dX7_moveHome_183 : decode cX7_moveHome 183 = .ok (.goto (-58), 3) := by decide +kernel
theorem dX7_moveHome_186 : decode cX7_moveHome 186 = .ok (.aload_n 0, 1) := by decide +kernel
theorem dX7_moveHome_187 : decode cX7_moveHome 187 = .ok (.invokevirtual 313, 3) := by decide +kernel
theorem dX7_moveHome_190 : decode cX7_moveHome 190 = .ok (.iload 4, 2) := by decide +kernel
theorem dX7_moveHome_192 : decode cX7_moveHome 192 = .ok (.ireturn, 1) := by decide +kernel
theorem dX7_setCapacity_0 : decode cX7_setCapacity 0 = .ok (.aload_n 0, 1) := by decide +kernel
theorem dX7_setCapacity_1 : decode cX7_setCapacity 1 = .ok (.iload_n 1, 1) := by decide +kernel
theorem dX7_setCapacity_2 : decode cX7_setCapacity 2 = .ok (.invokevirtual 289, 3) := by decide +kernel
theorem dX7_setCapacity_5 : decode cX7_setCapacity 5 = .ok (.ifCond .ne 26, 3) := by decide +kernel
theorem dX7_setCapacity_8 : decode cX7_setCapacity 8 = .ok (.aload_n 0, 1) := by decide +kernel
theorem dX7_setCapacity_9 : decode cX7_setCapacity 9 = .ok (.iload_n 2, 1) := by decide +kernel
theorem dX7_setCapacity_10 : decode cX7_setCapacity 10 = .ok (.iconst 0, 1) := by decide +kernel
theorem dX7_setCapacity_11 : decode cX7_setCapacity 11 = .ok (.bipush 40, 2) := by decide +kernel
theorem dX7_setCapacity_13 : decode cX7_setCapacity 13 = .ok (.invokestatic 66, 3) := by decide +kernel
theorem dX7_setCapacity_16 : decode cX7_setCapacity 16 = .ok (.ifCond .ne 7, 3) := by decide +kernel
theorem dX7_setCapacity_19 : decode cX7_setCapacity 19 = .ok (.iconst 1, 1) := by decide +kernel
theorem dX7_setCapacity_20 : decode cX7_setCapacity 20 = .ok (.goto 4, 3) := by decide +kernel
theorem dX7_setCapacity_23 : decode cX7_setCapacity 23 = .ok (.iconst 0, 1) := by decide +kernel
theorem dX7_setCapacity_24 : decode cX7_setCapacity 24 = .ok (.iconst 2, 1) := by decide +kernel
theorem dX7_setCapacity_25 : decode cX7_setCapacity 25 = .ok (.invokevirtual 279, 3) := by decide +kernel
theorem dX7_setCapacity_28 : decode cX7_setCapacity 28 = .ok (.ifCond .eq 5, 3) := by decide +kernel
theorem dX7_setCapacity_31 : decode cX7_setCapacity 31 = .ok (.iconst 0, 1) := by decide +kernel
theorem dX7_setCapacity_32 : decode cX7_setCapacity 32 = .ok (.ireturn, 1) := by decide +kernel
theorem dX7_setCapacity_33 : decode cX7_setCapacity 33 = .ok (.aload_n 0, 1) := by decide +kernel
theorem dX7_setCapacity_34 : decode cX7_setCapacity 34 = .ok (.invokevirtual 304, 3) := by decide +kernel
theorem dX7_setCapacity_37 : decode cX7_setCapacity 37 = .ok (.aload_n 0, 1) := by decide +kernel
theorem dX7_setCapacity_38 : decode cX7_setCapacity 38 = .ok (.getfield 7, 3) := by decide +kernel
theorem dX7_setCapacity_41 : decode cX7_setCapacity 41 = .ok (.bipush 20, 2) := by decide +kernel
theorem dX7_setCapacity_43 : decode cX7_setCapacity 43 = .ok (.iload_n 1, 1) := by decide +kernel
theorem dX7_setCapacity_44 : decode cX7_setCapacity 44 = .ok (.iadd, 1) := by decide +kernel
theorem dX7_setCapacity_45 : decode cX7_setCapacity 45 = .ok (.iaload, 1) := by decide +kernel
theorem dX7_setCapacity_46 : decode cX7_setCapacity 46 = .ok (.istore_n 3, 1) := by decide +kernel
theorem dX7_setCapacity_47 : decode cX7_setCapacity 47 = .ok (.aload_n 0, 1) := by decide +kernel
theorem dX7_setCapacity_48 : decode cX7_setCapacity 48 = .ok (.getfield 7, 3) := by decide +kernel
theorem dX7_setCapacity_51 : decode cX7_setCapacity 51 = .ok (.bipush 20, 2) := by decide +kernel
theorem dX7_setCapacity_53 : decode cX7_setCapacity 53 = .ok (.iload_n 1, 1) := by decide +kernel
theorem dX7_setCapacity_54 : decode cX7_setCapacity 54 = .ok (.iadd, 1) := by decide +kernel
theorem dX7_setCapacity_55 : decode cX7_setCapacity 55 = .ok (.iload_n 2, 1) := by decide +kernel
theorem dX7_setCapacity_56 : decode cX7_setCapacity 56 = .ok (.iastore, 1) := by decide +kernel
theorem dX7_setCapacity_57 : decode cX7_setCapacity 57 = .ok (.aload_n 0, 1) := by decide +kernel
theorem dX7_setCapacity_58 : decode cX7_setCapacity 58 = .ok (.invokevirtual 313, 3) := by decide +kernel
theorem dX7_setCapacity_61 : decode cX7_setCapacity 61 = .ok (.iload_n 3, 1) := by decide +kernel
theorem dX7_setCapacity_62 : decode cX7_setCapacity 62 = .ok (.ireturn, 1) := by decide +kernel
theorem dX7_appeal_0 : decode cX7_appeal 0 = .ok (.aload_n 0, 1) := by decide +kernel
theorem dX7_appeal_1 : decode cX7_appeal 1 = .ok (.iload_n 1, 1) := by decide +kernel
theorem dX7_appeal_2 : decode cX7_appeal 2 = .ok (.iload_n 2, 1) := by decide +kernel
theorem dX7_appeal_3 : decode cX7_appeal 3 = .ok (.invokevirtual 298, 3) := by decide +kernel
theorem dX7_appeal_6 : decode cX7_appeal 6 = .ok (.ifCond .ne 25, 3) := by decide +kernel
theorem dX7_appeal_9 : decode cX7_appeal 9 = .ok (.aload_n 0, 1) := by decide +kernel
theorem dX7_appeal_10 : decode cX7_appeal 10 = .ok (.aload_n 0, 1) := by decide +kernel
theorem dX7_appeal_11 : decode cX7_appeal 11 = .ok (.iload_n 1, 1) := by decide +kernel
theorem dX7_appeal_12 : decode cX7_appeal 12 = .ok (.iload_n 2, 1) := by decide +kernel
theorem dX7_appeal_13 : decode cX7_appeal 13 = .ok (.invokevirtual 98, 3) := by decide +kernel
theorem dX7_appeal_16 : decode cX7_appeal 16 = .ok (.ifCond .ne 7, 3) := by decide +kernel
theorem dX7_appeal_19 : decode cX7_appeal 19 = .ok (.iconst 1, 1) := by decide +kernel
theorem dX7_appeal_20 : decode cX7_appeal 20 = .ok (.goto 4, 3) := by decide +kernel
theorem dX7_appeal_23 : decode cX7_appeal 23 = .ok (.iconst 0, 1) := by decide +kernel
theorem dX7_appeal_24 : decode cX7_appeal 24 = .ok (.iconst 2, 1) := by decide +kernel
theorem dX7_appeal_25 : decode cX7_appeal 25 = .ok (.invokevirtual 279, 3) := by decide +kernel
theorem dX7_appeal_28 : decode cX7_appeal 28 = .ok (.ifCond .eq 5, 3) := by decide +kernel
theorem dX7_appeal_31 : decode cX7_appeal 31 = .ok (.iconst 0, 1) := by decide +kernel
theorem dX7_appeal_32 : decode cX7_appeal 32 = .ok (.ireturn, 1) := by decide +kernel
theorem dX7_appeal_33 : decode cX7_appeal 33 = .ok (.aload_n 0, 1) := by decide +kernel
theorem dX7_appeal_34 : decode cX7_appeal 34 = .ok (.invokevirtual 304, 3) := by decide +kernel
theorem dX7_appeal_37 : decode cX7_appeal 37 = .ok (.aload_n 0, 1) := by decide +kernel
theorem dX7_appeal_38 : decode cX7_appeal 38 = .ok (.iload_n 1, 1) := by decide +kernel
theorem dX7_appeal_39 : decode cX7_appeal 39 = .ok (.iload_n 2, 1) := by decide +kernel
theorem dX7_appeal_40 : decode cX7_appeal 40 = .ok (.invokevirtual 301, 3) := by decide +kernel
theorem dX7_appeal_43 : decode cX7_appeal 43 = .ok (.ifCond .eq 7, 3) := by decide +kernel
theorem dX7_appeal_46 : decode cX7_appeal 46 = .ok (.iconst 2, 1) := by decide +kernel
theorem dX7_appeal_47 : decode cX7_appeal 47 = .ok (.goto 27, 3) := by decide +kernel
theorem dX7_appeal_50 : decode cX7_appeal 50 = .ok (.aload_n 0, 1) := by decide +kernel
theorem dX7_appeal_51 : decode cX7_appeal 51 = .ok (.getfield 7, 3) := by decide +kernel
theorem dX7_appeal_54 : decode cX7_appeal 54 = .ok (.bipush 60, 2) := by decide +kernel
theorem dX7_appeal_56 : decode cX7_appeal 56 = .ok (.iload_n 2, 1) := by decide +kernel
theorem dX7_appeal_57 : decode cX7_appeal 57 = .ok (.iadd, 1) := by decide +kernel
theorem dX7_appeal_58 : decode cX7_appeal 58 = .ok (.iaload, 1) := by decide +kernel
theorem dX7_appeal_59 : decode cX7_appeal 59 = .ok (.aload_n 0, 1) := by decide +kernel
theorem dX7_appeal_60 : decode cX7_appeal 60 = .ok (.getfield 7, 3) := by decide +kernel
theorem dX7_appeal_63 : decode cX7_appeal 63 = .ok (.bipush 6, 2) := by decide +kernel
theorem dX7_appeal_65 : decode cX7_appeal 65 = .ok (.iaload, 1) := by decide +kernel
theorem dX7_appeal_66 : decode cX7_appeal 66 = .ok (.if_icmp .ge 7, 3) := by decide +kernel
theorem dX7_appeal_69 : decode cX7_appeal 69 = .ok (.iconst 1, 1) := by decide +kernel
theorem dX7_appeal_70 : decode cX7_appeal 70 = .ok (.goto 4, 3) := by decide +kernel
theorem dX7_appeal_73 : decode cX7_appeal 73 = .ok (.iconst 0, 1) := by decide +kernel
theorem dX7_appeal_74 : decode cX7_appeal 74 = .ok (.istore_n 3, 1) := by decide +kernel
theorem dX7_appeal_75 : decode cX7_appeal 75 = .ok (.iload_n 3, 1) := by decide +kernel
theorem dX7_appeal_76 : decode cX7_appeal 76 = .ok (.iconst 1, 1) := by decide +kernel
theorem dX7_appeal_77 : decode cX7_appeal 77 = .ok (.if_icmp .ne 16, 3) := by decide +kernel
theorem dX7_appeal_80 : decode cX7_appeal 80 = .ok (.aload_n 0, 1) := by decide +kernel
theorem dX7_appeal_81 : decode cX7_appeal 81 = .ok (.getfield 7, 3) := by decide +kernel
theorem dX7_appeal_84 : decode cX7_appeal 84 = .ok (.bipush 60, 2) := by decide +kernel
theorem dX7_appeal_86 : decode cX7_appeal 86 = .ok (.iload_n 2, 1) := by decide +kernel
theorem dX7_appeal_87 : decode cX7_appeal 87 = .ok (.iadd, 1) := by decide +kernel
theorem dX7_appeal_88 : decode cX7_appeal 88 = .ok (.dup2, 1) := by decide +kernel
theorem dX7_appeal_89 : decode cX7_appeal 89 = .ok (.iaload, 1) := by decide +kernel
theorem dX7_appeal_90 : decode cX7_appeal 90 = .ok (.iconst 1, 1) := by decide +kernel
theorem dX7_appeal_91 : decode cX7_appeal 91 = .ok (.iadd, 1) := by decide +kernel
theorem dX7_appeal_92 : decode cX7_appeal 92 = .ok (.iastore, 1) := by decide +kernel
theorem dX7_appeal_93 : decode cX7_appeal 93 = .ok (.iload_n 3, 1) := by decide +kernel
theorem dX7_appeal_94 : decode cX7_appeal 94 = .ok (.ifCond .le 10, 3) := by decide +kernel
theorem dX7_appeal_97 : decode cX7_appeal 97 = .ok (.aload_n 0, 1) := by decide +kernel
theorem dX7_appeal_98 : decode cX7_appeal 98 = .ok (.iload_n 1, 1) := by decide +kernel
theorem dX7_appeal_99 : decode cX7_appeal 99 = .ok (.iload_n 2, 1) := by decide +kernel
theorem dX7_appeal_100 : decode cX7_appeal 100 = .ok (.iconst 1, 1) := by decide +kernel
theorem dX7_appeal_101 : decode cX7_appeal 101 = .ok (.invokevirtual 125, 3) := by decide +kernel
theorem dX7_appeal_104 : decode cX7_appeal 104 = .ok (.aload_n 0, 1) := by decide +kernel
theorem dX7_appeal_105 : decode cX7_appeal 105 = .ok (.invokevirtual 313, 3) := by decide +kernel
theorem dX7_appeal_108 : decode cX7_appeal 108 = .ok (.iload_n 3, 1) := by decide +kernel
theorem dX7_appeal_109 : decode cX7_appeal 109 = .ok (.ireturn, 1) := by decide +kernel
theorem dX7_setLate_0 : decode cX7_setLate 0 = .ok (.aload_n 0, 1) := by decide +kernel
theorem dX7_setLate_1 : decode cX7_setLate 1 = .ok (.iconst 0, 1) := by decide +kernel
theorem dX7_setLate_2 : decode cX7_setLate 2 = .ok (.putfield 56, 3) := by decide +kernel
theorem dX7_setLate_5 : decode cX7_setLate 5 = .ok (.aload_n 0, 1) := by decide +kernel
theorem dX7_setLate_6 : decode cX7_setLate 6 = .ok (.invokevirtual 304, 3) := by decide +kernel
theorem dX7_setLate_9 : decode cX7_setLate 9 = .ok (.aload_n 0, 1) := by decide +kernel
theorem dX7_setLate_10 : decode cX7_setLate 10 = .ok (.getfield 7, 3) := by decide +kernel
theorem dX7_setLate_13 : decode cX7_setLate 13 = .ok (.bipush 7, 2) := by decide +kernel
theorem dX7_setLate_15 : decode cX7_setLate 15 = .ok (.iaload, 1) := by decide +kernel
theorem dX7_setLate_16 : decode cX7_setLate 16 = .ok (.iconst 1, 1) := by decide +kernel
theorem dX7_setLate_17 : decode cX7_setLate 17 = .ok (.if_icmp .ne 7, 3) := by decide +kernel
theorem dX7_setLate_20 : decode cX7_setLate 20 = .ok (.iconst 1, 1) := by decide +kernel
theorem dX7_setLate_21 : decode cX7_setLate 21 = .ok (.goto 4, 3) := by decide +kernel
theorem dX7_setLate_24 : decode cX7_setLate 24 = .ok (.iconst 0, 1) := by decide +kernel
theorem dX7_setLate_25 : decode cX7_setLate 25 = .ok (.istore_n 2, 1) := by decide +kernel
theorem dX7_setLate_26 : decode cX7_setLate 26 = .ok (.aload_n 0, 1) := by decide +kernel
theorem dX7_setLate_27 : decode cX7_setLate 27 = .ok (.getfield 7, 3) := by decide +kernel
theorem dX7_setLate_30 : decode cX7_setLate 30 = .ok (.bipush 7, 2) := by decide +kernel
theorem dX7_setLate_32 : decode cX7_setLate 32 = .ok (.iload_n 1, 1) := by decide +kernel
theorem dX7_setLate_33 : decode cX7_setLate 33 = .ok (.ifCond .eq 7, 3) := by decide +kernel
theorem dX7_setLate_36 : decode cX7_setLate 36 = .ok (.iconst 1, 1) := by decide +kernel
theorem dX7_setLate_37 : decode cX7_setLate 37 = .ok (.goto 4, 3) := by decide +kernel
theorem dX7_setLate_40 : decode cX7_setLate 40 = .ok (.iconst 0, 1) := by decide +kernel
theorem dX7_setLate_41 : decode cX7_setLate 41 = .ok (.iastore, 1) := by decide +kernel
theorem dX7_setLate_42 : decode cX7_setLate 42 = .ok (.aload_n 0, 1) := by decide +kernel
theorem dX7_setLate_43 : decode cX7_setLate 43 = .ok (.invokevirtual 313, 3) := by decide +kernel
theorem dX7_setLate_46 : decode cX7_setLate 46 = .ok (.iload_n 2, 1) := by decide +kernel
theorem dX7_setLate_47 : decode cX7_setLate 47 = .ok (.ireturn, 1) := by decide +kernel
theorem dX7_lastHolder_0 : decode cX7_lastHolder 0 = .ok (.aload_n 0, 1) := by decide +kernel
theorem dX7_lastHolder_1 : decode cX7_lastHolder 1 = .ok (.iload_n 1, 1) := by decide +kernel
theorem dX7_lastHolder_2 : decode cX7_lastHolder 2 = .ok (.invokevirtual 289, 3) := by decide +kernel
theorem dX7_lastHolder_5 : decode cX7_lastHolder 5 = .ok (.ifCond .eq 7, 3) := by decide +kernel
theorem dX7_lastHolder_8 : decode cX7_lastHolder 8 = .ok (.iconst 0, 1) := by decide +kernel
theorem dX7_lastHolder_9 : decode cX7_lastHolder 9 = .ok (.goto 8, 3) := by decide +kernel
theorem dX7_lastHolder_12 : decode cX7_lastHolder 12 = .ok (.aload_n 0, 1) := by decide +kernel
theorem dX7_lastHolder_13 : decode cX7_lastHolder 13 = .ok (.iload_n 1, 1) := by decide +kernel
theorem dX7_lastHolder_14 : decode cX7_lastHolder 14 = .ok (.invokevirtual 129, 3) := by decide +kernel
theorem dX7_lastHolder_17 : decode cX7_lastHolder 17 = .ok (.ireturn, 1) := by decide +kernel
theorem dX7_placed_0 : decode cX7_placed 0 = .ok (.aload_n 0, 1) := by decide +kernel
theorem dX7_placed_1 : decode cX7_placed 1 = .ok (.getfield 7, 3) := by decide +kernel
theorem dX7_placed_4 : decode cX7_placed 4 = .ok (.iconst 1, 1) := by decide +kernel
theorem dX7_placed_5 : decode cX7_placed 5 = .ok (.iaload, 1) := by decide +kernel
theorem dX7_placed_6 : decode cX7_placed 6 = .ok (.aload_n 0, 1) := by decide +kernel
theorem dX7_placed_7 : decode cX7_placed 7 = .ok (.sipush 484, 3) := by decide +kernel
theorem dX7_placed_10 : decode cX7_placed 10 = .ok (.iconst (-1), 1) := by decide +kernel
theorem dX7_placed_11 : decode cX7_placed 11 = .ok (.invokevirtual 283, 3) := by decide +kernel
theorem dX7_placed_14 : decode cX7_placed 14 = .ok (.isub, 1) := by decide +kernel
theorem dX7_placed_15 : decode cX7_placed 15 = .ok (.ireturn, 1) := by decide +kernel
theorem dX7_firstShare_0 : decode cX7_firstShare 0 = .ok (.aload_n 0, 1) := by decide +kernel
theorem dX7_firstShare_1 : decode cX7_firstShare 1 = .ok (.iconst 0, 1) := by decide +kernel
theorem dX7_firstShare_2 : decode cX7_firstShare 2 = .ok (.putfield 56, 3) := by decide +kernel
theorem dX7_firstShare_5 : decode cX7_firstShare 5 = .ok (.iconst 0, 1) := by decide +kernel
theorem dX7_firstShare_6 : decode cX7_firstShare 6 = .ok (.istore_n 1, 1) := by decide +kernel
theorem dX7_firstShare_7 : decode cX7_firstShare 7 = .ok (.iconst 0, 1) := by decide +kernel
theorem dX7_firstShare_8 : decode cX7_firstShare 8 = .ok (.istore_n 2, 1) := by decide +kernel
theorem dX7_firstShare_9 : decode cX7_firstShare 9 = .ok (.iload_n 2, 1) := by decide +kernel
theorem dX7_firstShare_10 : decode cX7_firstShare 10 = .ok (.aload_n 0, 1) := by decide +kernel
theorem dX7_firstShare_11 : decode cX7_firstShare 11 = .ok (.getfield 7, 3) := by decide +kernel
theorem dX7_firstShare_14 : decode cX7_firstShare 14 = .ok (.iconst 1, 1) := by decide +kernel
theorem dX7_firstShare_15 : decode cX7_firstShare 15 = .ok (.iaload, 1) := by decide +kernel
theorem dX7_firstShare_16 : decode cX7_firstShare 16 = .ok (.if_icmp .ge 25, 3) := by decide +kernel
theorem dX7_firstShare_19 : decode cX7_firstShare 19 = .ok (.iload_n 1, 1) := by decide +kernel
theorem dX7_firstShare_20 : decode cX7_firstShare 20 = .ok (.aload_n 0, 1) := by decide +kernel
theorem dX7_firstShare_21 : decode cX7_firstShare 21 = .ok (.iload_n 2, 1) := by decide +kernel
theorem dX7_firstShare_22 : decode cX7_firstShare 22 = .ok (.invokevirtual 94, 3) := by decide +kernel
theorem dX7_firstShare_25 : decode cX7_firstShare 25 = .ok (.ifCond .ne 7, 3) := by decide +kernel
theorem dX7_firstShare_28 : decode cX7_firstShare 28 = .ok (.iconst 1, 1) := by decide +kernel
theorem dX7_firstShare_29 : decode cX7_firstShare 29 = .ok (.goto 4, 3) := by decide +kernel
theorem dX7_firstShare_32 : decode cX7_firstShare 32 = .ok (.iconst 0, 1) := by decide +kernel
theorem dX7_firstShare_33 : decode cX7_firstShare 33 = .ok (.iadd, 1) := by decide +kernel
theorem dX7_firstShare_34 : decode cX7_firstShare 34 = .ok (.istore_n 1, 1) := by decide +kernel
theorem dX7_firstShare_35 : decode cX7_firstShare 35 = .ok (.iinc 2 1, 3) := by decide +kernel
theorem dX7_firstShare_38 : decode cX7_firstShare 38 = .ok (.goto (-29), 3) := by decide +kernel
theorem dX7_firstShare_41 : decode cX7_firstShare 41 = .ok (.aload_n 0, 1) := by decide +kernel
theorem dX7_firstShare_42 : decode cX7_firstShare 42 = .ok (.invokevirtual 319, 3) := by decide +kernel
theorem dX7_firstShare_45 : decode cX7_firstShare 45 = .ok (.ifCond .ne 7, 3) := by decide +kernel
theorem dX7_firstShare_48 : decode cX7_firstShare 48 = .ok (.fconst 0, 1) := by decide +kernel
theorem dX7_firstShare_49 : decode cX7_firstShare 49 = .ok (.goto 11, 3) := by decide +kernel
theorem dX7_firstShare_52 : decode cX7_firstShare 52 = .ok (.iload_n 1, 1) := by decide +kernel
theorem dX7_firstShare_53 : decode cX7_firstShare 53 = .ok (.i2f, 1) := by decide +kernel
theorem dX7_firstShare_54 : decode cX7_firstShare 54 = .ok (.aload_n 0, 1) := by decide +kernel
theorem dX7_firstShare_55 : decode cX7_firstShare 55 = .ok (.invokevirtual 319, 3) := by decide +kernel
theorem dX7_firstShare_58 : decode cX7_firstShare 58 = .ok (.i2f, 1) := by decide +kernel
theorem dX7_firstShare_59 : decode cX7_firstShare 59 = .ok (.fdiv, 1) := by decide +kernel
theorem dX7_firstShare_60 : decode cX7_firstShare 60 = .ok (.freturn, 1) := by decide +kernel
theorem dX7_meanPreference_0 : decode cX7_meanPreference 0 = .ok (.aload_n 0, 1) := by decide +kernel
theorem dX7_meanPreference_1 : decode cX7_meanPreference 1 = .ok (.iconst 0, 1) := by decide +kernel
theorem dX7_meanPreference_2 : decode cX7_meanPreference 2 = .ok (.putfield 56, 3) := by decide +kernel
theorem dX7_meanPreference_5 : decode cX7_meanPreference 5 = .ok (.iconst 0, 1) := by decide +kernel
theorem dX7_meanPreference_6 : decode cX7_meanPreference 6 = .ok (.istore_n 1, 1) := by decide +kernel
theorem dX7_meanPreference_7 : decode cX7_meanPreference 7 = .ok (.iconst 0, 1) := by decide +kernel
theorem dX7_meanPreference_8 : decode cX7_meanPreference 8 = .ok (.istore_n 2, 1) := by decide +kernel
theorem dX7_meanPreference_9 : decode cX7_meanPreference 9 = .ok (.iload_n 2, 1) := by decide +kernel
theorem dX7_meanPreference_10 : decode cX7_meanPreference 10 = .ok (.aload_n 0, 1) := by decide +kernel
theorem dX7_meanPreference_11 : decode cX7_meanPreference 11 = .ok (.getfield 7, 3) := by decide +kernel
theorem dX7_meanPreference_14 : decode cX7_meanPreference 14 = .ok (.iconst 1, 1) := by decide +kernel
theorem dX7_meanPreference_15 : decode cX7_meanPreference 15 = .ok (.iaload, 1) := by decide +kernel
theorem dX7_meanPreference_16 : decode cX7_meanPreference 16 = .ok (.if_icmp .ge 19, 3) := by decide +kernel
theorem dX7_meanPreference_19 : decode cX7_meanPreference 19 = .ok (.iload_n 1, 1) := by decide +kernel
theorem dX7_meanPreference_20 : decode cX7_meanPreference 20 = .ok (.aload_n 0, 1) := by decide +kernel
theorem dX7_meanPreference_21 : decode cX7_meanPreference 21 = .ok (.iload_n 2, 1) := by decide +kernel
theorem dX7_meanPreference_22 : decode cX7_meanPreference 22 = .ok (.invokevirtual 94, 3) := by decide +kernel
theorem dX7_meanPreference_25 : decode cX7_meanPreference 25 = .ok (.iconst 1, 1) := by decide +kernel
theorem dX7_meanPreference_26 : decode cX7_meanPreference 26 = .ok (.iadd, 1) := by decide +kernel
theorem dX7_meanPreference_27 : decode cX7_meanPreference 27 = .ok (.iadd, 1) := by decide +kernel
theorem dX7_meanPreference_28 : decode cX7_meanPreference 28 = .ok (.istore_n 1, 1) := by decide +kernel
theorem dX7_meanPreference_29 : decode cX7_meanPreference 29 = .ok (.iinc 2 1, 3) := by decide +kernel
theorem dX7_meanPreference_32 : decode cX7_meanPreference 32 = .ok (.goto (-23), 3) := by decide +kernel
theorem dX7_meanPreference_35 : decode cX7_meanPreference 35 = .ok (.aload_n 0, 1) := by decide +kernel
theorem dX7_meanPreference_36 : decode cX7_meanPreference 36 = .ok (.invokevirtual 319, 3) := by decide +kernel
theorem dX7_meanPreference_39 : decode cX7_meanPreference 39 = .ok (.ifCond .ne 7, 3) := by decide +kernel
theorem dX7_meanPreference_42 : decode cX7_meanPreference 42 = .ok (.dconst 0, 1) := by decide +kernel
theorem dX7_meanPreference_43 : decode cX7_meanPreference 43 = .ok (.goto 11, 3) := by decide +kernel
theorem dX7_meanPreference_46 : decode cX7_meanPreference 46 = .ok (.iload_n 1, 1) := by decide +kernel
theorem dX7_meanPreference_47 : decode cX7_meanPreference 47 = .ok (.i2d, 1) := by decide +kernel
theorem dX7_meanPreference_48 : decode cX7_meanPreference 48 = .ok (.aload_n 0, 1) := by decide +kernel
theorem dX7_meanPreference_49 : decode cX7_meanPreference 49 = .ok (.invokevirtual 319, 3) := by decide +kernel
theorem dX7_meanPreference_52 : decode cX7_meanPreference 52 = .ok (.i2d, 1) := by decide +kernel
theorem dX7_meanPreference_53 : decode cX7_meanPreference 53 = .ok (.ddiv, 1) := by decide +kernel
theorem dX7_meanPreference_54 : decode cX7_meanPreference 54 = .ok (.dreturn, 1) := by decide +kernel
theorem dX7_root_0 : decode cX7_root 0 = .ok (.dload_n 0, 1) := by decide +kernel
theorem dX7_root_1 : decode cX7_root 1 = .ok (.dconst 0, 1) := by decide +kernel
theorem dX7_root_2 : decode cX7_root 2 = .ok (.dcmp .l, 1) := by decide +kernel
theorem dX7_root_3 : decode cX7_root 3 = .ok (.ifCond .ne 5, 3) := by decide +kernel
theorem dX7_root_6 : decode cX7_root 6 = .ok (.dconst 0, 1) := by decide +kernel
theorem dX7_root_7 : decode cX7_root 7 = .ok (.dreturn, 1) := by decide +kernel
theorem dX7_root_8 : decode cX7_root 8 = .ok (.dload_n 0, 1) := by decide +kernel
theorem dX7_root_9 : decode cX7_root 9 = .ok (.dstore_n 2, 1) := by decide +kernel
theorem dX7_root_10 : decode cX7_root 10 = .ok (.iconst 0, 1) := by decide +kernel
theorem dX7_root_11 : decode cX7_root 11 = .ok (.istore 4, 2) := by decide +kernel
theorem dX7_root_13 : decode cX7_root 13 = .ok (.iload 4, 2) := by decide +kernel
theorem dX7_root_15 : decode cX7_root 15 = .ok (.bipush 60, 2) := by decide +kernel
theorem dX7_root_17 : decode cX7_root 17 = .ok (.if_icmp .ge 19, 3) := by decide +kernel
theorem dX7_root_20 : decode cX7_root 20 = .ok (.dload_n 2, 1) := by decide +kernel
theorem dX7_root_21 : decode cX7_root 21 = .ok (.dload_n 0, 1) := by decide +kernel
theorem dX7_root_22 : decode cX7_root 22 = .ok (.dload_n 2, 1) := by decide +kernel
theorem dX7_root_23 : decode cX7_root 23 = .ok (.ddiv, 1) := by decide +kernel
theorem dX7_root_24 : decode cX7_root 24 = .ok (.dadd, 1) := by decide +kernel
theorem dX7_root_25 : decode cX7_root 25 = .ok (.ldc2_w 322, 3) := by decide +kernel
theorem dX7_root_28 : decode cX7_root 28 = .ok (.ddiv, 1) := by decide +kernel
theorem dX7_root_29 : decode cX7_root 29 = .ok (.dstore_n 2, 1) := by decide +kernel
theorem dX7_root_30 : decode cX7_root 30 = .ok (.iinc 4 1, 3) := by decide +kernel
theorem dX7_root_33 : decode cX7_root 33 = .ok (.goto (-20), 3) := by decide +kernel
theorem dX7_root_36 : decode cX7_root 36 = .ok (.dload_n 2, 1) := by decide +kernel
theorem dX7_root_37 : decode cX7_root 37 = .ok (.dreturn, 1) := by decide +kernel
theorem dX7_way_0 : decode cX7_way 0 = .ok (.aload_n 0, 1) := by decide +kernel
theorem dX7_way_1 : decode cX7_way 1 = .ok (.iload_n 1, 1) := by decide +kernel
theorem dX7_way_2 : decode cX7_way 2 = .ok (.invokevirtual 286, 3) := by decide +kernel
theorem dX7_way_5 : decode cX7_way 5 = .ok (.ifCond .eq 5, 3) := by decide +kernel
theorem dX7_way_8 : decode cX7_way 8 = .ok (.fconst 0, 1) := by decide +kernel
theorem dX7_way_9 : decode cX7_way 9 = .ok (.freturn, 1) := by decide +kernel
theorem dX7_way_10 : decode cX7_way 10 = .ok (.aload_n 0, 1) := by decide +kernel
theorem dX7_way_11 : decode cX7_way 11 = .ok (.getfield 7, 3) := by decide +kernel
theorem dX7_way_14 : decode cX7_way 14 = .ok (.sipush 484, 3) := by decide +kernel
theorem dX7_way_17 : decode cX7_way 17 = .ok (.iload_n 1, 1) := by decide +kernel
theorem dX7_way_18 : decode cX7_way 18 = .ok (.iadd, 1) := by decide +kernel
theorem dX7_way_19 : decode cX7_way 19 = .ok (.iaload, 1) := by decide +kernel
theorem dX7_way_20 : decode cX7_way 20 = .ok (.iconst (-1), 1) := by decide +kernel
theorem dX7_way_21 : decode cX7_way 21 = .ok (.if_icmp .ne 9, 3) := by decide +kernel
theorem dX7_way_24 : decode cX7_way 24 = .ok (.ldc_w 324, 3) := by decide +kernel
theorem dX7_way_27 : decode cX7_way 27 = .ok (.goto 23, 3) := by decide +kernel
theorem dX7_way_30 : decode cX7_way 30 = .ok (.aload_n 0, 1) := by decide +kernel
theorem dX7_way_31 : decode cX7_way 31 = .ok (.iload_n 1, 1) := by decide +kernel
theorem dX7_way_32 : decode cX7_way 32 = .ok (.aload_n 0, 1) := by decide +kernel
theorem dX7_way_33 : decode cX7_way 33 = .ok (.getfield 7, 3) := by decide +kernel
theorem dX7_way_36 : decode cX7_way 36 = .ok (.sipush 484, 3) := by decide +kernel
theorem dX7_way_39 : decode cX7_way 39 = .ok (.iload_n 1, 1) := by decide +kernel
theorem dX7_way_40 : decode cX7_way 40 = .ok (.iadd, 1) := by decide +kernel
theorem dX7_way_41 : decode cX7_way 41 = .ok (.iaload, 1) := by decide +kernel
theorem dX7_way_42 : decode cX7_way 42 = .ok (.invokevirtual 84, 3) := by decide +kernel
theorem dX7_way_45 : decode cX7_way 45 = .ok (.i2d, 1) := by decide +kernel
theorem dX7_way_46 : decode cX7_way 46 = .ok (.invokestatic 325, 3) := by decide +kernel
theorem dX7_way_49 : decode cX7_way 49 = .ok (.d2f, 1) := by decide +kernel
theorem dX7_way_50 : decode cX7_way 50 = .ok (.freturn, 1) := by decide +kernel
theorem dX7_meanWay_0 : decode cX7_meanWay 0 = .ok (.aload_n 0, 1) := by decide +kernel
theorem dX7_meanWay_1 : decode cX7_meanWay 1 = .ok (.iconst 0, 1) := by decide +kernel
theorem dX7_meanWay_2 : decode cX7_meanWay 2 = .ok (.putfield 56, 3) := by decide +kernel
theorem dX7_meanWay_5 : decode cX7_meanWay 5 = .ok (.dconst 0, 1) := by decide +kernel
theorem dX7_meanWay_6 : decode cX7_meanWay 6 = .ok (.dstore_n 1, 1) := by decide +kernel
theorem dX7_meanWay_7 : decode cX7_meanWay 7 = .ok (.iconst 0, 1) := by decide +kernel
theorem dX7_meanWay_8 : decode cX7_meanWay 8 = .ok (.istore_n 3, 1) := by decide +kernel
theorem dX7_meanWay_9 : decode cX7_meanWay 9 = .ok (.iload_n 3, 1) := by decide +kernel
theorem dX7_meanWay_10 : decode cX7_meanWay 10 = .ok (.aload_n 0, 1) := by decide +kernel
theorem dX7_meanWay_11 : decode cX7_meanWay 11 = .ok (.getfield 7, 3) := by decide +kernel
theorem dX7_meanWay_14 : decode cX7_meanWay 14 = .ok (.iconst 1, 1) := by decide +kernel
theorem dX7_meanWay_15 : decode cX7_meanWay 15 = .ok (.iaload, 1) := by decide +kernel
theorem dX7_meanWay_16 : decode cX7_meanWay 16 = .ok (.if_icmp .ge 45, 3) := by decide +kernel
theorem dX7_meanWay_19 : decode cX7_meanWay 19 = .ok (.aload_n 0, 1) := by decide +kernel
theorem dX7_meanWay_20 : decode cX7_meanWay 20 = .ok (.getfield 7, 3) := by decide +kernel
theorem dX7_meanWay_23 : decode cX7_meanWay 23 = .ok (.sipush 484, 3) := by decide +kernel
theorem dX7_meanWay_26 : decode cX7_meanWay 26 = .ok (.iload_n 3, 1) := by decide +kernel
theorem dX7_meanWay_27 : decode cX7_meanWay 27 = .ok (.iadd, 1) := by decide +kernel
theorem dX7_meanWay_28 : decode cX7_meanWay 28 = .ok (.iaload, 1) := by decide +kernel
theorem dX7_meanWay_29 : decode cX7_meanWay 29 = .ok (.iconst (-1), 1) := by decide +kernel
theorem dX7_meanWay_30 : decode cX7_meanWay 30 = .ok (.if_icmp .eq 25, 3) := by decide +kernel
theorem dX7_meanWay_33 : decode cX7_meanWay 33 = .ok (.dload_n 1, 1) := by decide +kernel
theorem dX7_meanWay_34 : decode cX7_meanWay 34 = .ok (.aload_n 0, 1) := by decide +kernel
theorem dX7_meanWay_35 : decode cX7_meanWay 35 = .ok (.iload_n 3, 1) := by decide +kernel
theorem dX7_meanWay_36 : decode cX7_meanWay 36 = .ok (.aload_n 0, 1) := by decide +kernel
theorem dX7_meanWay_37 : decode cX7_meanWay 37 = .ok (.getfield 7, 3) := by decide +kernel
theorem dX7_meanWay_40 : decode cX7_meanWay 40 = .ok (.sipush 484, 3) := by decide +kernel
theorem dX7_meanWay_43 : decode cX7_meanWay 43 = .ok (.iload_n 3, 1) := by decide +kernel
theorem dX7_meanWay_44 : decode cX7_meanWay 44 = .ok (.iadd, 1) := by decide +kernel
theorem dX7_meanWay_45 : decode cX7_meanWay 45 = .ok (.iaload, 1) := by decide +kernel
theorem dX7_meanWay_46 : decode cX7_meanWay 46 = .ok (.invokevirtual 84, 3) := by decide +kernel
theorem dX7_meanWay_49 : decode cX7_meanWay 49 = .ok (.i2d, 1) := by decide +kernel
theorem dX7_meanWay_50 : decode cX7_meanWay 50 = .ok (.invokestatic 325, 3) := by decide +kernel
theorem dX7_meanWay_53 : decode cX7_meanWay 53 = .ok (.dadd, 1) := by decide +kernel
theorem dX7_meanWay_54 : decode cX7_meanWay 54 = .ok (.dstore_n 1, 1) := by decide +kernel
theorem dX7_meanWay_55 : decode cX7_meanWay 55 = .ok (.iinc 3 1, 3) := by decide +kernel
theorem dX7_meanWay_58 : decode cX7_meanWay 58 = .ok (.goto (-49), 3) := by decide +kernel
theorem dX7_meanWay_61 : decode cX7_meanWay 61 = .ok (.aload_n 0, 1) := by decide +kernel
theorem dX7_meanWay_62 : decode cX7_meanWay 62 = .ok (.invokevirtual 319, 3) := by decide +kernel
theorem dX7_meanWay_65 : decode cX7_meanWay 65 = .ok (.ifCond .ne 7, 3) := by decide +kernel
theorem dX7_meanWay_68 : decode cX7_meanWay 68 = .ok (.dconst 0, 1) := by decide +kernel
theorem dX7_meanWay_69 : decode cX7_meanWay 69 = .ok (.goto 10, 3) := by decide +kernel
theorem dX7_meanWay_72 : decode cX7_meanWay 72 = .ok (.dload_n 1, 1) := by decide +kernel
theorem dX7_meanWay_73 : decode cX7_meanWay 73 = .ok (.aload_n 0, 1) := by decide +kernel
theorem dX7_meanWay_74 : decode cX7_meanWay 74 = .ok (.invokevirtual 319, 3) := by decide +kernel
theorem dX7_meanWay_77 : decode cX7_meanWay 77 = .ok (.i2d, 1) := by decide +kernel
theorem dX7_meanWay_78 : decode cX7_meanWay 78 = .ok (.ddiv, 1) := by decide +kernel
theorem dX7_meanWay_79 : decode cX7_meanWay 79 = .ok (.dreturn, 1) := by decide +kernel
theorem dX7_prefers_0 : decode cX7_prefers 0 = .ok (.aload_n 0, 1) := by decide +kernel
theorem dX7_prefers_1 : decode cX7_prefers 1 = .ok (.iload_n 1, 1) := by decide +kernel
theorem dX7_prefers_2 : decode cX7_prefers 2 = .ok (.iload_n 2, 1) := by decide +kernel
theorem dX7_prefers_3 : decode cX7_prefers 3 = .ok (.invokevirtual 87, 3) := by decide +kernel
theorem dX7_prefers_6 : decode cX7_prefers 6 = .ok (.istore_n 3, 1) := by decide +kernel
theorem dX7_prefers_7 : decode cX7_prefers 7 = .ok (.iload_n 3, 1) := by decide +kernel
theorem dX7_prefers_8 : decode cX7_prefers 8 = .ok (.iconst (-1), 1) := by decide +kernel
theorem dX7_prefers_9 : decode cX7_prefers 9 = .ok (.if_icmp .eq 16, 3) := by decide +kernel
theorem dX7_prefers_12 : decode cX7_prefers 12 = .ok (.iload_n 3, 1) := by decide +kernel
theorem dX7_prefers_13 : decode cX7_prefers 13 = .ok (.aload_n 0, 1) := by decide +kernel
theorem dX7_prefers_14 : decode cX7_prefers 14 = .ok (.iload_n 1, 1) := by decide +kernel
theorem dX7_prefers_15 : decode cX7_prefers 15 = .ok (.invokevirtual 94, 3) := by decide +kernel
theorem dX7_prefers_18 : decode cX7_prefers 18 = .ok (.if_icmp .ge 7, 3) := by decide +kernel
theorem dX7_prefers_21 : decode cX7_prefers 21 = .ok (.iconst 1, 1) := by decide +kernel
theorem dX7_prefers_22 : decode cX7_prefers 22 = .ok (.goto 4, 3) := by decide +kernel
theorem dX7_prefers_25 : decode cX7_prefers 25 = .ok (.iconst 0, 1) := by decide +kernel
theorem dX7_prefers_26 : decode cX7_prefers 26 = .ok (.ireturn, 1) := by decide +kernel
theorem dX7_trade_0 : decode cX7_trade 0 = .ok (.aload_n 0, 1) := by decide +kernel
theorem dX7_trade_1 : decode cX7_trade 1 = .ok (.getfield 7, 3) := by decide +kernel
theorem dX7_trade_4 : decode cX7_trade 4 = .ok (.sipush 484, 3) := by decide +kernel
theorem dX7_trade_7 : decode cX7_trade 7 = .ok (.iload_n 1, 1) := by decide +kernel
theorem dX7_trade_8 : decode cX7_trade 8 = .ok (.iadd, 1) := by decide +kernel
theorem dX7_trade_9 : decode cX7_trade 9 = .ok (.iaload, 1) := by decide +kernel
theorem dX7_trade_10 : decode cX7_trade 10 = .ok (.iconst (-1), 1) := by decide +kernel
theorem dX7_trade_11 : decode cX7_trade 11 = .ok (.if_icmp .eq 57, 3) := by decide +kernel
theorem dX7_trade_14 : decode cX7_trade 14 = .ok (.aload_n 0, 1) := by decide +kernel
theorem dX7_trade_15 : decode cX7_trade 15 = .ok (.getfield 7, 3) := by decide +kernel
theorem dX7_trade_18 : decode cX7_trade 18 = .ok (.sipush 484, 3) := by decide +kernel
theorem dX7_trade_21 : decode cX7_trade 21 = .ok (.iload_n 2, 1) := by decide +kernel
theorem dX7_trade_22 : decode cX7_trade 22 = .ok (.iadd, 1) := by decide +kernel
theorem dX7_trade_23 : decode cX7_trade 23 = .ok (.iaload, 1) := by decide +kernel
theorem dX7_trade_24 : decode cX7_trade 24 = .ok (.iconst (-1), 1) := by decide +kernel
theorem dX7_trade_25 : decode cX7_trade 25 = .ok (.if_icmp .eq 43, 3) := by decide +kernel
theorem dX7_trade_28 : decode cX7_trade 28 = .ok (.aload_n 0, 1) := by decide +kernel
theorem dX7_trade_29 : decode cX7_trade 29 = .ok (.iload_n 1, 1) := by decide +kernel
theorem dX7_trade_30 : decode cX7_trade 30 = .ok (.aload_n 0, 1) := by decide +kernel
theorem dX7_trade_31 : decode cX7_trade 31 = .ok (.getfield 7, 3) := by decide +kernel
theorem dX7_trade_34 : decode cX7_trade 34 = .ok (.sipush 484, 3) := by decide +kernel
theorem dX7_trade_37 : decode cX7_trade 37 = .ok (.iload_n 2, 1) := by decide +kernel
theorem dX7_trade_38 : decode cX7_trade 38 = .ok (.iadd, 1) := by decide +kernel
theorem dX7_trade_39 : decode cX7_trade 39 = .ok (.iaload, 1) := by decide +kernel
theorem dX7_trade_40 : decode cX7_trade 40 = .ok (.invokevirtual 329, 3) := by decide +kernel
theorem dX7_trade_43 : decode cX7_trade 43 = .ok (.ifCond .eq 25, 3) := by decide +kernel
theorem dX7_trade_46 : decode cX7_trade 46 = .ok (.aload_n 0, 1) := by decide +kernel
theorem dX7_trade_47 : decode cX7_trade 47 = .ok (.iload_n 2, 1) := by decide +kernel
theorem dX7_trade_48 : decode cX7_trade 48 = .ok (.aload_n 0, 1) := by decide +kernel
theorem dX7_trade_49 : decode cX7_trade 49 = .ok (.getfield 7, 3) := by decide +kernel
theorem dX7_trade_52 : decode cX7_trade 52 = .ok (.sipush 484, 3) := by decide +kernel
theorem dX7_trade_55 : decode cX7_trade 55 = .ok (.iload_n 1, 1) := by decide +kernel
theorem dX7_trade_56 : decode cX7_trade 56 = .ok (.iadd, 1) := by decide +kernel
theorem dX7_trade_57 : decode cX7_trade 57 = .ok (.iaload, 1) := by decide +kernel
theorem dX7_trade_58 : decode cX7_trade 58 = .ok (.invokevirtual 329, 3) := by decide +kernel
theorem dX7_trade_61 : decode cX7_trade 61 = .ok (.ifCond .eq 7, 3) := by decide +kernel
theorem dX7_trade_64 : decode cX7_trade 64 = .ok (.iconst 1, 1) := by decide +kernel
theorem dX7_trade_65 : decode cX7_trade 65 = .ok (.goto 4, 3) := by decide +kernel
theorem dX7_trade_68 : decode cX7_trade 68 = .ok (.iconst 0, 1) := by decide +kernel
theorem dX7_trade_69 : decode cX7_trade 69 = .ok (.ireturn, 1) := by decide +kernel
theorem dX7_tradePartner_0 : decode cX7_tradePartner 0 = .ok (.aload_n 0, 1) := by decide +kernel
theorem dX7_tradePartner_1 : decode cX7_tradePartner 1 = .ok (.iload_n 1, 1) := by decide +kernel
theorem dX7_tradePartner_2 : decode cX7_tradePartner 2 = .ok (.invokevirtual 286, 3) := by decide +kernel
theorem dX7_tradePartner_5 : decode cX7_tradePartner 5 = .ok (.ifCond .eq 5, 3) := by decide +kernel
theorem dX7_tradePartner_8 : decode cX7_tradePartner 8 = .ok (.iconst 0, 1) := by decide +kernel
theorem dX7_tradePartner_9 : decode cX7_tradePartner 9 = .ok (.ireturn, 1) := by decide +kernel
theorem dX7_tradePartner_10 : decode cX7_tradePartner 10 = .ok (.iconst 0, 1) := by decide +kernel
theorem dX7_tradePartner_11 : decode cX7_tradePartner 11 = .ok (.istore_n 2, 1) := by decide +kernel
theorem dX7_tradePartner_12 : decode cX7_tradePartner 12 = .ok (.iload_n 2, 1) := by decide +kernel
theorem dX7_tradePartner_13 : decode cX7_tradePartner 13 = .ok (.aload_n 0, 1) := by decide +kernel
theorem dX7_tradePartner_14 : decode cX7_tradePartner 14 = .ok (.getfield 7, 3) := by decide +kernel
theorem dX7_tradePartner_17 : decode cX7_tradePartner 17 = .ok (.iconst 1, 1) := by decide +kernel
theorem dX7_tradePartner_18 : decode cX7_tradePartner 18 = .ok (.iaload, 1) := by decide +kernel
theorem dX7_tradePartner_19 : decode cX7_tradePartner 19 = .ok (.if_icmp .ge 18, 3) := by decide +kernel
theorem dX7_tradePartner_22 : decode cX7_tradePartner 22 = .ok (.aload_n 0, 1) := by decide +kernel
theorem dX7_tradePartner_23 : decode cX7_tradePartner 23 = .ok (.iload_n 1, 1) := by decide +kernel
theorem dX7_tradePartner_24 : decode cX7_tradePartner 24 = .ok (.iload_n 2, 1) := by decide +kernel
theorem dX7_tradePartner_25 : decode cX7_tradePartner 25 = .ok (.invokevirtual 331, 3) := by decide +kernel
theorem dX7_tradePartner_28 : decode cX7_tradePartner 28 = .ok (.ifCond .ne 9, 3) := by decide +kernel
theorem dX7_tradePartner_31 : decode cX7_tradePartner 31 = .ok (.iinc 2 1, 3) := by decide +kernel
theorem dX7_tradePartner_34 : decode cX7_tradePartner 34 = .ok (.goto (-22), 3) := by decide +kernel
theorem dX7_tradePartner_37 : decode cX7_tradePartner 37 = .ok (.iload_n 2, 1) := by decide +kernel
theorem dX7_tradePartner_38 : decode cX7_tradePartner 38 = .ok (.aload_n 0, 1) := by decide +kernel
theorem dX7_tradePartner_39 : decode cX7_tradePartner 39 = .ok (.getfield 7, 3) := by decide +kernel
theorem dX7_tradePartner_42 : decode cX7_tradePartner 42 = .ok (.iconst 1, 1) := by decide +kernel
theorem dX7_tradePartner_43 : decode cX7_tradePartner 43 = .ok (.iaload, 1) := by decide +kernel
theorem dX7_tradePartner_44 : decode cX7_tradePartner 44 = .ok (.if_icmp .ne 7, 3) := by decide +kernel
theorem dX7_tradePartner_47 : decode cX7_tradePartner 47 = .ok (.iconst (-1), 1) := by decide +kernel
theorem dX7_tradePartner_48 : decode cX7_tradePartner 48 = .ok (.goto 4, 3) := by decide +kernel
theorem dX7_tradePartner_51 : decode cX7_tradePartner 51 = .ok (.iload_n 2, 1) := by decide +kernel
theorem dX7_tradePartner_52 : decode cX7_tradePartner 52 = .ok (.ireturn, 1) := by decide +kernel
theorem dX7_trades_0 : decode cX7_trades 0 = .ok (.aload_n 0, 1) := by decide +kernel
theorem dX7_trades_1 : decode cX7_trades 1 = .ok (.iconst 0, 1) := by decide +kernel
theorem dX7_trades_2 : decode cX7_trades 2 = .ok (.putfield 56, 3) := by decide +kernel
theorem dX7_trades_5 : decode cX7_trades 5 = .ok (.iconst 0, 1) := by decide +kernel
theorem dX7_trades_6 : decode cX7_trades 6 = .ok (.istore_n 1, 1) := by decide +kernel
theorem dX7_trades_7 : decode cX7_trades 7 = .ok (.iconst 0, 1) := by decide +kernel
theorem dX7_trades_8 : decode cX7_trades 8 = .ok (.istore_n 2, 1) := by decide +kernel
theorem dX7_trades_9 : decode cX7_trades 9 = .ok (.iload_n 2, 1) := by decide +kernel
theorem dX7_trades_10 : decode cX7_trades 10 = .ok (.aload_n 0, 1) := by decide +kernel
theorem dX7_trades_11 : decode cX7_trades 11 = .ok (.getfield 7, 3) := by decide +kernel
theorem dX7_trades_14 : decode cX7_trades 14 = .ok (.iconst 1, 1) := by decide +kernel
theorem dX7_trades_15 : decode cX7_trades 15 = .ok (.iaload, 1) := by decide +kernel
theorem dX7_trades_16 : decode cX7_trades 16 = .ok (.if_icmp .ge 39, 3) := by decide +kernel
theorem dX7_trades_19 : decode cX7_trades 19 = .ok (.iconst 0, 1) := by decide +kernel
theorem dX7_trades_20 : decode cX7_trades 20 = .ok (.istore_n 3, 1) := by decide +kernel
theorem dX7_trades_21 : decode cX7_trades 21 = .ok (.iload_n 3, 1) := by decide +kernel
theorem dX7_trades_22 : decode cX7_trades 22 = .ok (.iload_n 2, 1) := by decide +kernel
theorem dX7_trades_23 : decode cX7_trades 23 = .ok (.if_icmp .ge 26, 3) := by decide +kernel
theorem dX7_trades_26 : decode cX7_trades 26 = .ok (.iload_n 1, 1) := by decide +kernel
theorem dX7_trades_27 : decode cX7_trades 27 = .ok (.aload_n 0, 1) := by decide +kernel
theorem dX7_trades_28 : decode cX7_trades 28 = .ok (.iload_n 2, 1) := by decide +kernel
theorem dX7_trades_29 : decode cX7_trades 29 = .ok (.iload_n 3, 1) := by decide +kernel
theorem dX7_trades_30 : decode cX7_trades 30 = .ok (.invokevirtual 331, 3) := by decide +kernel
theorem dX7_trades_33 : decode cX7_trades 33 = .ok (.ifCond .eq 7, 3) := by decide +kernel
theorem dX7_trades_36 : decode cX7_trades 36 = .ok (.iconst 1, 1) := by decide +kernel
theorem dX7_trades_37 : decode cX7_trades 37 = .ok (.goto 4, 3) := by decide +kernel
theorem dX7_trades_40 : decode cX7_trades 40 = .ok (.iconst 0, 1) := by decide +kernel
theorem dX7_trades_41 : decode cX7_trades 41 = .ok (.iadd, 1) := by decide +kernel
theorem dX7_trades_42 : decode cX7_trades 42 = .ok (.istore_n 1, 1) := by decide +kernel
theorem dX7_trades_43 : decode cX7_trades 43 = .ok (.iinc 3 1, 3) := by decide +kernel
theorem dX7_trades_46 : decode cX7_trades 46 = .ok (.goto (-25), 3) := by decide +kernel
theorem dX7_trades_49 : decode cX7_trades 49 = .ok (.iinc 2 1, 3) := by decide +kernel
theorem dX7_trades_52 : decode cX7_trades 52 = .ok (.goto (-43), 3) := by decide +kernel
theorem dX7_trades_55 : decode cX7_trades 55 = .ok (.iload_n 1, 1) := by decide +kernel
theorem dX7_trades_56 : decode cX7_trades 56 = .ok (.ireturn, 1) := by decide +kernel
theorem dX7_holdersOfClass_0 : decode cX7_holdersOfClass 0 = .ok (.aload_n 0, 1) := by decide +kernel
theorem dX7_holdersOfClass_1 : decode cX7_holdersOfClass 1 = .ok (.iload_n 1, 1) := by decide +kernel
theorem dX7_holdersOfClass_2 : decode cX7_holdersOfClass 2 = .ok (.invokevirtual 289, 3) := by decide +kernel
theorem dX7_holdersOfClass_5 : decode cX7_holdersOfClass 5 = .ok (.ifCond .eq 5, 3) := by decide +kernel
theorem dX7_holdersOfClass_8 : decode cX7_holdersOfClass 8 = .ok (.iconst 0, 1) := by decide +kernel
theorem dX7_holdersOfClass_9 : decode cX7_holdersOfClass 9 = .ok (.ireturn, 1) := by decide +kernel
theorem dX7_holdersOfClass_10 : decode cX7_holdersOfClass 10 = .ok (.iconst 0, 1) := by decide +kernel
theorem dX7_holdersOfClass_11 : decode cX7_holdersOfClass 11 = .ok (.istore_n 3, 1) := by decide +kernel
theorem dX7_holdersOfClass_12 : decode cX7_holdersOfClass 12 = .ok (.iconst 0, 1) := by decide +kernel
theorem dX7_holdersOfClass_13 : decode cX7_holdersOfClass 13 = .ok (.istore 4, 2) := by decide +kernel
theorem dX7_holdersOfClass_15 : decode cX7_holdersOfClass 15 = .ok (.iload 4, 2) := by decide +kernel
theorem dX7_holdersOfClass_17 : decode cX7_holdersOfClass 17 = .ok (.aload_n 0, 1) := by decide +kernel
theorem dX7_holdersOfClass_18 : decode cX7_holdersOfClass 18 = .ok (.getfield 7, 3) := by decide +kernel
theorem dX7_holdersOfClass_21 : decode cX7_holdersOfClass 21 = .ok (.iconst 1, 1) := by decide +kernel
theorem dX7_holdersOfClass_22 : decode cX7_holdersOfClass 22 = .ok (.iaload, 1) := by decide +kernel
theorem dX7_holdersOfClass_23 : decode cX7_holdersOfClass 23 = .ok (.if_icmp .ge 43, 3) := by decide +kernel
theorem dX7_holdersOfClass_26 : decode cX7_holdersOfClass 26 = .ok (.iload_n 3, 1) := by decide +kernel
theorem dX7_holdersOfClass_27 : decode cX7_holdersOfClass 27 = .ok (.aload_n 0, 1) := by decide +kernel
theorem dX7_holdersOfClass_28 : decode cX7_holdersOfClass 28 = .ok (.getfield 7, 3) := by decide +kernel
theorem dX7_holdersOfClass_31 : decode cX7_holdersOfClass 31 = .ok (.sipush 484, 3) := by decide +kernel
theorem dX7_holdersOfClass_34 : decode cX7_holdersOfClass 34 = .ok (.iload 4, 2) := by decide +kernel
theorem dX7_holdersOfClass_36 : decode cX7_holdersOfClass 36 = .ok (.iadd, 1) := by decide +kernel
theorem dX7_holdersOfClass_37 : decode cX7_holdersOfClass 37 = .ok (.iaload, 1) := by decide +kernel
theorem dX7_holdersOfClass_38 : decode cX7_holdersOfClass 38 = .ok (.iload_n 1, 1) := by decide +kernel
theorem dX7_holdersOfClass_39 : decode cX7_holdersOfClass 39 = .ok (.if_icmp .ne 18, 3) := by decide +kernel
theorem dX7_holdersOfClass_42 : decode cX7_holdersOfClass 42 = .ok (.aload_n 0, 1) := by decide +kernel
theorem dX7_holdersOfClass_43 : decode cX7_holdersOfClass 43 = .ok (.iload 4, 2) := by decide +kernel
theorem dX7_holdersOfClass_45 : decode cX7_holdersOfClass 45 = .ok (.iload_n 1, 1) := by decide +kernel
theorem dX7_holdersOfClass_46 : decode cX7_holdersOfClass 46 = .ok (.invokevirtual 80, 3) := by decide +kernel
theorem dX7_holdersOfClass_49 : decode cX7_holdersOfClass 49 = .ok (.iload_n 2, 1) := by decide +kernel
theorem dX7_holdersOfClass_50 : decode cX7_holdersOfClass 50 = .ok (.if_icmp .ne 7, 3) := by decide +kernel
theorem dX7_holdersOfClass_53 : decode cX7_holdersOfClass 53 = .ok (.iconst 1, 1) := by decide +kernel
theorem dX7_holdersOfClass_54 : decode cX7_holdersOfClass 54 = .ok (.goto 4, 3) := by decide +kernel
theorem dX7_holdersOfClass_57 : decode cX7_holdersOfClass 57 = .ok (.iconst 0, 1) := by decide +kernel
theorem dX7_holdersOfClass_58 : decode cX7_holdersOfClass 58 = .ok (.iadd, 1) := by decide +kernel
theorem dX7_holdersOfClass_59 : decode cX7_holdersOfClass 59 = .ok (.istore_n 3, 1) := by decide +kernel
theorem dX7_holdersOfClass_60 : decode cX7_holdersOfClass 60 = .ok (.iinc 4 1, 3) := by decide +kernel
theorem dX7_holdersOfClass_63 : decode cX7_holdersOfClass 63 = .ok (.goto (-48), 3) := by decide +kernel
theorem dX7_holdersOfClass_66 : decode cX7_holdersOfClass 66 = .ok (.iload_n 3, 1) := by decide +kernel
theorem dX7_holdersOfClass_67 : decode cX7_holdersOfClass 67 = .ok (.ireturn, 1) := by decide +kernel
theorem dX7_mostWaited_0 : decode cX7_mostWaited 0 = .ok (.aload_n 0, 1) := by decide +kernel
theorem dX7_mostWaited_1 : decode cX7_mostWaited 1 = .ok (.iconst 0, 1) := by decide +kernel
theorem dX7_mostWaited_2 : decode cX7_mostWaited 2 = .ok (.putfield 56, 3) := by decide +kernel
theorem dX7_mostWaited_5 : decode cX7_mostWaited 5 = .ok (.iconst (-1), 1) := by decide +kernel
theorem dX7_mostWaited_6 : decode cX7_mostWaited 6 = .ok (.istore_n 1, 1) := by decide +kernel
theorem dX7_mostWaited_7 : decode cX7_mostWaited 7 = .ok (.iconst 0, 1) := by decide +kernel
theorem dX7_mostWaited_8 : decode cX7_mostWaited 8 = .ok (.istore_n 2, 1) := by decide +kernel
theorem dX7_mostWaited_9 : decode cX7_mostWaited 9 = .ok (.iconst 0, 1) := by decide +kernel
theorem dX7_mostWaited_10 : decode cX7_mostWaited 10 = .ok (.istore_n 3, 1) := by decide +kernel
theorem dX7_mostWaited_11 : decode cX7_mostWaited 11 = .ok (.iload_n 3, 1) := by decide +kernel
theorem dX7_mostWaited_12 : decode cX7_mostWaited 12 = .ok (.aload_n 0, 1) := by decide +kernel
theorem dX7_mostWaited_13 : decode cX7_mostWaited 13 = .ok (.getfield 7, 3) := by decide +kernel
theorem dX7_mostWaited_16 : decode cX7_mostWaited 16 = .ok (.iconst 0, 1) := by decide +kernel
theorem dX7_mostWaited_17 : decode cX7_mostWaited 17 = .ok (.iaload, 1) := by decide +kernel
theorem dX7_mostWaited_18 : decode cX7_mostWaited 18 = .ok (.if_icmp .ge 30, 3) := by decide +kernel
theorem dX7_mostWaited_21 : decode cX7_mostWaited 21 = .ok (.aload_n 0, 1) := by decide +kernel
theorem dX7_mostWaited_22 : decode cX7_mostWaited 22 = .ok (.iload_n 3, 1) := by decide +kernel
theorem dX7_mostWaited_23 : decode cX7_mostWaited 23 = .ok (.invokevirtual 115, 3) := by decide +kernel
theorem dX7_mostWaited_26 : decode cX7_mostWaited 26 = .ok (.istore 4, 2) := by decide +kernel
theorem dX7_mostWaited_28 : decode cX7_mostWaited 28 = .ok (.iload 4, 2) := by decide +kernel
theorem dX7_mostWaited_30 : decode cX7_mostWaited 30 = .ok (.iload_n 2, 1) := by decide +kernel
theorem dX7_mostWaited_31 : decode cX7_mostWaited 31 = .ok (.if_icmp .gt 6, 3) := by decide +kernel
theorem dX7_mostWaited_34 : decode cX7_mostWaited 34 = .ok (.goto 8, 3) := by decide +kernel
theorem dX7_mostWaited_37 : decode cX7_mostWaited 37 = .ok (.iload_n 3, 1) := by decide +kernel
theorem dX7_mostWaited_38 : decode cX7_mostWaited 38 = .ok (.istore_n 1, 1) := by decide +kernel
theorem dX7_mostWaited_39 : decode cX7_mostWaited 39 = .ok (.iload 4, 2) := by decide +kernel
theorem dX7_mostWaited_41 : decode cX7_mostWaited 41 = .ok (.istore_n 2, 1) := by decide +kernel
theorem dX7_mostWaited_42 : decode cX7_mostWaited 42 = .ok (.iinc 3 1, 3) := by decide +kernel
theorem dX7_mostWaited_45 : decode cX7_mostWaited 45 = .ok (.goto (-34), 3) := by decide +kernel
theorem dX7_mostWaited_48 : decode cX7_mostWaited 48 = .ok (.iload_n 1, 1) := by decide +kernel
theorem dX7_mostWaited_49 : decode cX7_mostWaited 49 = .ok (.ireturn, 1) := by decide +kernel
theorem dX7_siblings_0 : decode cX7_siblings 0 = .ok (.aload_n 0, 1) := by decide +kernel
theorem dX7_siblings_1 : decode cX7_siblings 1 = .ok (.iload_n 1, 1) := by decide +kernel
theorem dX7_siblings_2 : decode cX7_siblings 2 = .ok (.invokevirtual 286, 3) := by decide +kernel
theorem dX7_siblings_5 : decode cX7_siblings 5 = .ok (.ifCond .ne 16, 3) := by decide +kernel
theorem dX7_siblings_8 : decode cX7_siblings 8 = .ok (.aload_n 0, 1) := by decide +kernel
theorem dX7_siblings_9 : decode cX7_siblings 9 = .ok (.getfield 7, 3) := by decide +kernel
theorem dX7_siblings_12 : decode cX7_siblings 12 = .ok (.sipush 204, 3) := by decide +kernel
theorem dX7_siblings_15 : decode cX7_siblings 15 = .ok (.iload_n 1, 1) := by decide +kernel
theorem dX7_siblings_16 : decode cX7_siblings 16 = .ok (.iadd, 1) := by decide +kernel
theorem dX7_siblings_17 : decode cX7_siblings 17 = .ok (.iaload, 1) := by decide +kernel
theorem dX7_siblings_18 : decode cX7_siblings 18 = .ok (.ifCond .ne 5, 3) := by decide +kernel
theorem dX7_siblings_21 : decode cX7_siblings 21 = .ok (.lconst 0, 1) := by decide +kernel
theorem dX7_siblings_22 : decode cX7_siblings 22 = .ok (.lreturn, 1) := by decide +kernel
theorem dX7_siblings_23 : decode cX7_siblings 23 = .ok (.lconst 0, 1) := by decide +kernel
theorem dX7_siblings_24 : decode cX7_siblings 24 = .ok (.lstore_n 2, 1) := by decide +kernel
theorem dX7_siblings_25 : decode cX7_siblings 25 = .ok (.iconst 0, 1) := by decide +kernel
theorem dX7_siblings_26 : decode cX7_siblings 26 = .ok (.istore 4, 2) := by decide +kernel
theorem dX7_siblings_28 : decode cX7_siblings 28 = .ok (.iload 4, 2) := by decide +kernel
theorem dX7_siblings_30 : decode cX7_siblings 30 = .ok (.aload_n 0, 1) := by decide +kernel
theorem dX7_siblings_31 : decode cX7_siblings 31 = .ok (.getfield 7, 3) := by decide +kernel
theorem dX7_siblings_34 : decode cX7_siblings 34 = .ok (.iconst 1, 1) := by decide +kernel
theorem dX7_siblings_35 : decode cX7_siblings 35 = .ok (.iaload, 1) := by decide +kernel
theorem dX7_siblings_36 : decode cX7_siblings 36 = .ok (.if_icmp .ge 59, 3) := by decide +kernel
theorem dX7_siblings_39 : decode cX7_siblings 39 = .ok (.lload_n 2, 1) := by decide +kernel
theorem dX7_siblings_40 : decode cX7_siblings 40 = .ok (.iload 4, 2) := by decide +kernel
theorem dX7_siblings_42 : decode cX7_siblings 42 = .ok (.iload_n 1, 1) := by decide +kernel
theorem dX7_siblings_43 : decode cX7_siblings 43 = .ok (.if_icmp .eq 43, 3) := by decide +kernel
theorem dX7_siblings_46 : decode cX7_siblings 46 = .ok (.aload_n 0, 1) := by decide +kernel
theorem dX7_siblings_47 : decode cX7_siblings 47 = .ok (.iload 4, 2) := by decide +kernel
theorem dX7_siblings_49 : decode cX7_siblings 49 = .ok (.invokevirtual 90, 3) := by decide +kernel
theorem dX7_siblings_52 : decode cX7_siblings 52 = .ok (.ifCond .eq 34, 3) := by decide +kernel
theorem dX7_siblings_55 : decode cX7_siblings 55 = .ok (.aload_n 0, 1) := by decide +kernel
theorem dX7_siblings_56 : decode cX7_siblings 56 = .ok (.getfield 7, 3) := by decide +kernel
theorem dX7_siblings_59 : decode cX7_siblings 59 = .ok (.sipush 204, 3) := by decide +kernel
theorem dX7_siblings_62 : decode cX7_siblings 62 = .ok (.iload 4, 2) := by decide +kernel
theorem dX7_siblings_64 : decode cX7_siblings 64 = .ok (.iadd, 1) := by decide +kernel
theorem dX7_siblings_65 : decode cX7_siblings 65 = .ok (.iaload, 1) := by decide +kernel
theorem dX7_siblings_66 : decode cX7_siblings 66 = .ok (.aload_n 0, 1) := by decide +kernel
theorem dX7_siblings_67 : decode cX7_siblings 67 = .ok (.getfield 7, 3) := by decide +kernel
theorem dX7_siblings_70 : decode cX7_siblings 70 = .ok (.sipush 204, 3) := by decide +kernel
theorem dX7_siblings_73 : decode cX7_siblings 73 = .ok (.iload_n 1, 1) := by decide +kernel
theorem dX7_siblings_74 : decode cX7_siblings 74 = .ok (.iadd, 1) := by decide +kernel
theorem dX7_siblings_75 : decode cX7_siblings 75 = .ok (.iaload, 1) := by decide +kernel
theorem dX7_siblings_76 : decode cX7_siblings 76 = .ok (.if_icmp .ne 10, 3) := by decide +kernel
theorem dX7_siblings_79 : decode cX7_siblings 79 = .ok (.lconst 1, 1) := by decide +kernel
theorem dX7_siblings_80 : decode cX7_siblings 80 = .ok (.iload 4, 2) := by decide +kernel
theorem dX7_siblings_82 : decode cX7_siblings 82 = .ok (.lshl, 1) := by decide +kernel
theorem dX7_siblings_83 : decode cX7_siblings 83 = .ok (.goto 4, 3) := by decide +kernel
theorem dX7_siblings_86 : decode cX7_siblings 86 = .ok (.lconst 0, 1) := by decide +kernel
theorem dX7_siblings_87 : decode cX7_siblings 87 = .ok (.lor, 1) := by decide +kernel
theorem dX7_siblings_88 : decode cX7_siblings 88 = .ok (.lstore_n 2, 1) := by decide +kernel
theorem dX7_siblings_89 : decode cX7_siblings 89 = .ok (.iinc 4 1, 3) := by decide +kernel
theorem dX7_siblings_92 : decode cX7_siblings 92 = .ok (.goto (-64), 3) := by decide +kernel
theorem dX7_siblings_95 : decode cX7_siblings 95 = .ok (.lload_n 2, 1) := by decide +kernel
theorem dX7_siblings_96 : decode cX7_siblings 96 = .ok (.lreturn, 1) := by decide +kernel
theorem dX7_wanted_0 : decode cX7_wanted 0 = .ok (.aload_n 0, 1) := by decide +kernel
theorem dX7_wanted_1 : decode cX7_wanted 1 = .ok (.iload_n 1, 1) := by decide +kernel
theorem dX7_wanted_2 : decode cX7_wanted 2 = .ok (.invokevirtual 289, 3) := by decide +kernel
theorem dX7_wanted_5 : decode cX7_wanted 5 = .ok (.ifCond .ne 12, 3) := by decide +kernel
theorem dX7_wanted_8 : decode cX7_wanted 8 = .ok (.iload_n 2, 1) := by decide +kernel
theorem dX7_wanted_9 : decode cX7_wanted 9 = .ok (.iconst 0, 1) := by decide +kernel
theorem dX7_wanted_10 : decode cX7_wanted 10 = .ok (.iconst 3, 1) := by decide +kernel
theorem dX7_wanted_11 : decode cX7_wanted 11 = .ok (.invokestatic 66, 3) := by decide +kernel
theorem dX7_wanted_14 : decode cX7_wanted 14 = .ok (.ifCond .ne 5, 3) := by decide +kernel
theorem dX7_wanted_17 : decode cX7_wanted 17 = .ok (.iconst 0, 1) := by decide +kernel
theorem dX7_wanted_18 : decode cX7_wanted 18 = .ok (.ireturn, 1) := by decide +kernel
theorem dX7_wanted_19 : decode cX7_wanted 19 = .ok (.iconst 0, 1) := by decide +kernel
theorem dX7_wanted_20 : decode cX7_wanted 20 = .ok (.istore_n 3, 1) := by decide +kernel
theorem dX7_wanted_21 : decode cX7_wanted 21 = .ok (.iconst 0, 1) := by decide +kernel
theorem dX7_wanted_22 : decode cX7_wanted 22 = .ok (.istore 4, 2) := by decide +kernel
theorem dX7_wanted_24 : decode cX7_wanted 24 = .ok (.iload 4, 2) := by decide +kernel
theorem dX7_wanted_26 : decode cX7_wanted 26 = .ok (.aload_n 0, 1) := by decide +kernel
theorem dX7_wanted_27 : decode cX7_wanted 27 = .ok (.getfield 7, 3) := by decide +kernel
theorem dX7_wanted_30 : decode cX7_wanted 30 = .ok (.iconst 1, 1) := by decide +kernel
theorem dX7_wanted_31 : decode cX7_wanted 31 = .ok (.iaload, 1) := by decide +kernel
theorem dX7_wanted_32 : decode cX7_wanted 32 = .ok (.if_icmp .ge 37, 3) := by decide +kernel
theorem dX7_wanted_35 : decode cX7_wanted 35 = .ok (.iload_n 3, 1) := by decide +kernel
theorem dX7_wanted_36 : decode cX7_wanted 36 = .ok (.aload_n 0, 1) := by decide +kernel
theorem dX7_wanted_37 : decode cX7_wanted 37 = .ok (.iload 4, 2) := by decide +kernel
theorem dX7_wanted_39 : decode cX7_wanted 39 = .ok (.invokevirtual 90, 3) := by decide +kernel
theorem dX7_wanted_42 : decode cX7_wanted 42 = .ok (.ifCond .eq 18, 3) := by decide +kernel
theorem dX7_wanted_45 : decode cX7_wanted 45 = .ok (.aload_n 0, 1) := by decide +kernel
theorem dX7_wanted_46 : decode cX7_wanted 46 = .ok (.iload 4, 2) := by decide +kernel
theorem dX7_wanted_48 : decode cX7_wanted 48 = .ok (.iload_n 1, 1) := by decide +kernel
theorem dX7_wanted_49 : decode cX7_wanted 49 = .ok (.invokevirtual 87, 3) := by decide +kernel
theorem dX7_wanted_52 : decode cX7_wanted 52 = .ok (.iload_n 2, 1) := by decide +kernel
theorem dX7_wanted_53 : decode cX7_wanted 53 = .ok (.if_icmp .ne 7, 3) := by decide +kernel
theorem dX7_wanted_56 : decode cX7_wanted 56 = .ok (.iconst 1, 1) := by decide +kernel
theorem dX7_wanted_57 : decode cX7_wanted 57 = .ok (.goto 4, 3) := by decide +kernel
theorem dX7_wanted_60 : decode cX7_wanted 60 = .ok (.iconst 0, 1) := by decide +kernel
theorem dX7_wanted_61 : decode cX7_wanted 61 = .ok (.iadd, 1) := by decide +kernel
theorem dX7_wanted_62 : decode cX7_wanted 62 = .ok (.istore_n 3, 1) := by decide +kernel
theorem dX7_wanted_63 : decode cX7_wanted 63 = .ok (.iinc 4 1, 3) := by decide +kernel
theorem dX7_wanted_66 : decode cX7_wanted 66 = .ok (.goto (-42), 3) := by decide +kernel
theorem dX7_wanted_69 : decode cX7_wanted 69 = .ok (.iload_n 3, 1) := by decide +kernel
theorem dX7_wanted_70 : decode cX7_wanted 70 = .ok (.ireturn, 1) := by decide +kernel
theorem dX7_inZone_0 : decode cX7_inZone 0 = .ok (.aload_n 0, 1) := by decide +kernel
theorem dX7_inZone_1 : decode cX7_inZone 1 = .ok (.iload_n 1, 1) := by decide +kernel
theorem dX7_inZone_2 : decode cX7_inZone 2 = .ok (.invokevirtual 289, 3) := by decide +kernel
theorem dX7_inZone_5 : decode cX7_inZone 5 = .ok (.ifCond .eq 5, 3) := by decide +kernel
theorem dX7_inZone_8 : decode cX7_inZone 8 = .ok (.iconst 0, 1) := by decide +kernel
theorem dX7_inZone_9 : decode cX7_inZone 9 = .ok (.ireturn, 1) := by decide +kernel
theorem dX7_inZone_10 : decode cX7_inZone 10 = .ok (.iconst 0, 1) := by decide +kernel
theorem dX7_inZone_11 : decode cX7_inZone 11 = .ok (.istore_n 2, 1) := by decide +kernel
theorem dX7_inZone_12 : decode cX7_inZone 12 = .ok (.iconst 0, 1) := by decide +kernel
theorem dX7_inZone_13 : decode cX7_inZone 13 = .ok (.istore_n 3, 1) := by decide +kernel
theorem dX7_inZone_14 : decode cX7_inZone 14 = .ok (.iload_n 3, 1) := by decide +kernel
theorem dX7_inZone_15 : decode cX7_inZone 15 = .ok (.aload_n 0, 1) := by decide +kernel
theorem dX7_inZone_16 : decode cX7_inZone 16 = .ok (.getfield 7, 3) := by decide +kernel
theorem dX7_inZone_19 : decode cX7_inZone 19 = .ok (.iconst 1, 1) := by decide +kernel
theorem dX7_inZone_20 : decode cX7_inZone 20 = .ok (.iaload, 1) := by decide +kernel
theorem dX7_inZone_21 : decode cX7_inZone 21 = .ok (.if_icmp .ge 34, 3) := by decide +kernel
theorem dX7_inZone_24 : decode cX7_inZone 24 = .ok (.iload_n 2, 1) := by decide +kernel
theorem dX7_inZone_25 : decode cX7_inZone 25 = .ok (.aload_n 0, 1) := by decide +kernel
theorem dX7_inZone_26 : decode cX7_inZone 26 = .ok (.iload_n 3, 1) := by decide +kernel
theorem dX7_inZone_27 : decode cX7_inZone 27 = .ok (.invokevirtual 90, 3) := by decide +kernel
theorem dX7_inZone_30 : decode cX7_inZone 30 = .ok (.ifCond .eq 16, 3) := by decide +kernel
theorem dX7_inZone_33 : decode cX7_inZone 33 = .ok (.aload_n 0, 1) := by decide +kernel
theorem dX7_inZone_34 : decode cX7_inZone 34 = .ok (.iload_n 3, 1) := by decide +kernel
theorem dX7_inZone_35 : decode cX7_inZone 35 = .ok (.iload_n 1, 1) := by decide +kernel
theorem dX7_inZone_36 : decode cX7_inZone 36 = .ok (.invokevirtual 74, 3) := by decide +kernel
theorem dX7_inZone_39 : decode cX7_inZone 39 = .ok (.ifCond .eq 7, 3) := by decide +kernel
theorem dX7_inZone_42 : decode cX7_inZone 42 = .ok (.iconst 1, 1) := by decide +kernel
theorem dX7_inZone_43 : decode cX7_inZone 43 = .ok (.goto 4, 3) := by decide +kernel
theorem dX7_inZone_46 : decode cX7_inZone 46 = .ok (.iconst 0, 1) := by decide +kernel
theorem dX7_inZone_47 : decode cX7_inZone 47 = .ok (.iadd, 1) := by decide +kernel
theorem dX7_inZone_48 : decode cX7_inZone 48 = .ok (.istore_n 2, 1) := by decide +kernel
theorem dX7_inZone_49 : decode cX7_inZone 49 = .ok (.iinc 3 1, 3) := by decide +kernel
theorem dX7_inZone_52 : decode cX7_inZone 52 = .ok (.goto (-38), 3) := by decide +kernel
theorem dX7_inZone_55 : decode cX7_inZone 55 = .ok (.iload_n 2, 1) := by decide +kernel
theorem dX7_inZone_56 : decode cX7_inZone 56 = .ok (.ireturn, 1) := by decide +kernel
theorem dX7_isTogether_0 : decode cX7_isTogether 0 = .ok (.iconst 0, 1) := by decide +kernel
theorem dX7_isTogether_1 : decode cX7_isTogether 1 = .ok (.istore_n 2, 1) := by decide +kernel
theorem dX7_isTogether_2 : decode cX7_isTogether 2 = .ok (.iconst (-1), 1) := by decide +kernel
theorem dX7_isTogether_3 : decode cX7_isTogether 3 = .ok (.istore_n 3, 1) := by decide +kernel
theorem dX7_isTogether_4 : decode cX7_isTogether 4 = .ok (.iconst 0, 1) := by decide +kernel
theorem dX7_isTogether_5 : decode cX7_isTogether 5 = .ok (.istore 4, 2) := by decide +kernel
theorem dX7_isTogether_7 : decode cX7_isTogether 7 = .ok (.iload 4, 2) := by decide +kernel
theorem dX7_isTogether_9 : decode cX7_isTogether 9 = .ok (.aload_n 0, 1) := by decide +kernel
theorem dX7_isTogether_10 : decode cX7_isTogether 10 = .ok (.getfield 7, 3) := by decide +kernel
theorem dX7_isTogether_13 : decode cX7_isTogether 13 = .ok (.iconst 1, 1) := by decide +kernel
theorem dX7_isTogether_14 : decode cX7_isTogether 14 = .ok (.iaload, 1) := by decide +kernel
theorem dX7_isTogether_15 : decode cX7_isTogether 15 = .ok (.if_icmp .ge 78, 3) := by decide +kernel
theorem dX7_isTogether_18 : decode cX7_isTogether 18 = .ok (.aload_n 0, 1) := by decide +kernel
theorem dX7_isTogether_19 : decode cX7_isTogether 19 = .ok (.getfield 7, 3) := by decide +kernel
theorem dX7_isTogether_22 : decode cX7_isTogether 22 = .ok (.sipush 204, 3) := by decide +kernel
theorem dX7_isTogether_25 : decode cX7_isTogether 25 = .ok (.iload 4, 2) := by decide +kernel
theorem dX7_isTogether_27 : decode cX7_isTogether 27 = .ok (.iadd, 1) := by decide +kernel
theorem dX7_isTogether_28 : decode cX7_isTogether 28 = .ok (.iaload, 1) := by decide +kernel
theorem dX7_isTogether_29 : decode cX7_isTogether 29 = .ok (.iload_n 1, 1) := by decide +kernel
theorem dX7_isTogether_30 : decode cX7_isTogether 30 = .ok (.if_icmp .ne 57, 3) := by decide +kernel
theorem dX7_isTogether_33 : decode cX7_isTogether 33 = .ok (.aload_n 0, 1) := by decide +kernel
theorem dX7_isTogether_34 : decode cX7_isTogether 34 = .ok (.getfield 7, 3) := by decide +kernel
theorem dX7_isTogether_37 : decode cX7_isTogether 37 = .ok (.sipush 484, 3) := by decide +kernel
theorem dX7_isTogether_40 : decode cX7_isTogether 40 = .ok (.iload 4, 2) := by decide +kernel
theorem dX7_isTogether_42 : decode cX7_isTogether 42 = .ok (.iadd, 1) := by decide +kernel
theorem dX7_isTogether_43 : decode cX7_isTogether 43 = .ok (.iaload, 1) := by decide +kernel
theorem dX7_isTogether_44 : decode cX7_isTogether 44 = .ok (.iconst (-1), 1) := by decide +kernel
theorem dX7_isTogether_45 : decode cX7_isTogether 45 = .ok (.if_icmp .ne 6, 3) := by decide +kernel
theorem dX7_isTogether_48 : decode cX7_isTogether 48 = .ok (.goto 39, 3) := by decide +kernel
theorem dX7_isTogether_51 : decode cX7_isTogether 51 = .ok (.iload_n 2, 1) := by decide +kernel
theorem dX7_isTogether_52 : decode cX7_isTogether 52 = .ok (.ifCond .le 20, 3) := by decide +kernel
theorem dX7_isTogether_55 : decode cX7_isTogether 55 = .ok (.aload_n 0, 1) := by decide +kernel
theorem dX7_isTogether_56 : decode cX7_isTogether 56 = .ok (.getfield 7, 3) := by decide +kernel
theorem dX7_isTogether_59 : decode cX7_isTogether 59 = .ok (.sipush 484, 3) := by decide +kernel
theorem dX7_isTogether_62 : decode cX7_isTogether 62 = .ok (.iload 4, 2) := by decide +kernel
theorem dX7_isTogether_64 : decode cX7_isTogether 64 = .ok (.iadd, 1) := by decide +kernel
theorem dX7_isTogether_65 : decode cX7_isTogether 65 = .ok (.iaload, 1) := by decide +kernel
theorem dX7_isTogether_66 : decode cX7_isTogether 66 = .ok (.iload_n 3, 1) := by decide +kernel
theorem dX7_isTogether_67 : decode cX7_isTogether 67 = .ok (.if_icmp .eq 5, 3) := by decide +kernel
theorem dX7_isTogether_70 : decode cX7_isTogether 70 = .ok (.iconst 0, 1) := by decide +kernel
theorem dX7_isTogether_71 : decode cX7_isTogether 71 = .ok (.ireturn, 1) := by decide +kernel
theorem dX7_isTogether_72 : decode cX7_isTogether 72 = .ok (.aload_n 0, 1) := by decide +kernel
theorem dX7_isTogether_73 : decode cX7_isTogether 73 = .ok (.getfield 7, 3) := by decide +kernel
theorem dX7_isTogether_76 : decode cX7_isTogether 76 = .ok (.sipush 484, 3) := by decide +kernel
theorem dX7_isTogether_79 : decode cX7_isTogether 79 = .ok (.iload 4, 2) := by decide +kernel
theorem dX7_isTogether_81 : decode cX7_isTogether 81 = .ok (.iadd, 1) := by decide +kernel
theorem dX7_isTogether_82 : decode cX7_isTogether 82 = .ok (.iaload, 1) := by decide +kernel
theorem dX7_isTogether_83 : decode cX7_isTogether 83 = .ok (.istore_n 3, 1) := by decide +kernel
theorem dX7_isTogether_84 : decode cX7_isTogether 84 = .ok (.iinc 2 1, 3) := by decide +kernel
theorem dX7_isTogether_87 : decode cX7_isTogether 87 = .ok (.iinc 4 1, 3) := by decide +kernel
theorem dX7_isTogether_90 : decode cX7_isTogether 90 = .ok (.goto (-83), 3) := by decide +kernel
theorem dX7_isTogether_93 : decode cX7_isTogether 93 = .ok (.iload_n 2, 1) := by decide +kernel
theorem dX7_isTogether_94 : decode cX7_isTogether 94 = .ok (.iconst 1, 1) := by decide +kernel
theorem dX7_isTogether_95 : decode cX7_isTogether 95 = .ok (.if_icmp .le 7, 3) := by decide +kernel
theorem dX7_isTogether_98 : decode cX7_isTogether 98 = .ok (.iconst 1, 1) := by decide +kernel
theorem dX7_isTogether_99 : decode cX7_isTogether 99 = .ok (.goto 4, 3) := by decide +kernel
theorem dX7_isTogether_102 : decode cX7_isTogether 102 = .ok (.iconst 0, 1) := by decide +kernel
theorem dX7_isTogether_103 : decode cX7_isTogether 103 = .ok (.ireturn, 1) := by decide +kernel
theorem dX7_together_0 : decode cX7_together 0 = .ok (.aload_n 0, 1) := by decide +kernel
theorem dX7_together_1 : decode cX7_together 1 = .ok (.iconst 0, 1) := by decide +kernel
theorem dX7_together_2 : decode cX7_together 2 = .ok (.putfield 56, 3) := by decide +kernel
theorem dX7_together_5 : decode cX7_together 5 = .ok (.iconst 0, 1) := by decide +kernel
theorem dX7_together_6 : decode cX7_together 6 = .ok (.istore_n 1, 1) := by decide +kernel
theorem dX7_together_7 : decode cX7_together 7 = .ok (.iconst 1, 1) := by decide +kernel
theorem dX7_together_8 : decode cX7_together 8 = .ok (.istore_n 2, 1) := by decide +kernel
theorem dX7_together_9 : decode cX7_together 9 = .ok (.iload_n 2, 1) := by decide +kernel
theorem dX7_together_10 : decode cX7_together 10 = .ok (.bipush 99, 2) := by decide +kernel
theorem dX7_together_12 : decode cX7_together 12 = .ok (.if_icmp .gt 25, 3) := by decide +kernel
theorem dX7_together_15 : decode cX7_together 15 = .ok (.iload_n 1, 1) := by decide +kernel
theorem dX7_together_16 : decode cX7_together 16 = .ok (.aload_n 0, 1) := by decide +kernel
theorem dX7_together_17 : decode cX7_together 17 = .ok (.iload_n 2, 1) := by decide +kernel
theorem dX7_together_18 : decode cX7_together 18 = .ok (.invokevirtual 334, 3) := by decide +kernel
theorem dX7_together_21 : decode cX7_together 21 = .ok (.ifCond .eq 7, 3) := by decide +kernel
theorem dX7_together_24 : decode cX7_together 24 = .ok (.iconst 1, 1) := by decide +kernel
theorem dX7_together_25 : decode cX7_together 25 = .ok (.goto 4, 3) := by decide +kernel
theorem dX7_together_28 : decode cX7_together 28 = .ok (.iconst 0, 1) := by decide +kernel
theorem dX7_together_29 : decode cX7_together 29 = .ok (.iadd, 1) := by decide +kernel
theorem dX7_together_30 : decode cX7_together 30 = .ok (.istore_n 1, 1) := by decide +kernel
theorem dX7_together_31 : decode cX7_together 31 = .ok (.iinc 2 1, 3) := by decide +kernel
theorem dX7_together_34 : decode cX7_together 34 = .ok (.goto (-25), 3) := by decide +kernel
theorem dX7_together_37 : decode cX7_together 37 = .ok (.iload_n 1, 1) := by decide +kernel
theorem dX7_together_38 : decode cX7_together 38 = .ok (.ireturn, 1) := by decide +kernel
theorem dX7_cutoff_0 : decode cX7_cutoff 0 = .ok (.aload_n 0, 1) := by decide +kernel
theorem dX7_cutoff_1 : decode cX7_cutoff 1 = .ok (.iload_n 1, 1) := by decide +kernel
theorem dX7_cutoff_2 : decode cX7_cutoff 2 = .ok (.invokevirtual 289, 3) := by decide +kernel
theorem dX7_cutoff_5 : decode cX7_cutoff 5 = .ok (.ifCond .ne 25, 3) := by decide +kernel
theorem dX7_cutoff_8 : decode cX7_cutoff 8 = .ok (.aload_n 0, 1) := by decide +kernel
theorem dX7_cutoff_9 : decode cX7_cutoff 9 = .ok (.iload_n 2, 1) := by decide +kernel
theorem dX7_cutoff_10 : decode cX7_cutoff 10 = .ok (.iconst 0, 1) := by decide +kernel
theorem dX7_cutoff_11 : decode cX7_cutoff 11 = .ok (.iconst 2, 1) := by decide +kernel
theorem dX7_cutoff_12 : decode cX7_cutoff 12 = .ok (.invokestatic 66, 3) := by decide +kernel
theorem dX7_cutoff_15 : decode cX7_cutoff 15 = .ok (.ifCond .ne 7, 3) := by decide +kernel
theorem dX7_cutoff_18 : decode cX7_cutoff 18 = .ok (.iconst 1, 1) := by decide +kernel
theorem dX7_cutoff_19 : decode cX7_cutoff 19 = .ok (.goto 4, 3) := by decide +kernel
theorem dX7_cutoff_22 : decode cX7_cutoff 22 = .ok (.iconst 0, 1) := by decide +kernel
theorem dX7_cutoff_23 : decode cX7_cutoff 23 = .ok (.iconst 2, 1) := by decide +kernel
theorem dX7_cutoff_24 : decode cX7_cutoff 24 = .ok (.invokevirtual 279, 3) := by decide +kernel
theorem dX7_cutoff_27 : decode cX7_cutoff 27 = .ok (.ifCond .eq 5, 3) := by decide +kernel
theorem dX7_cutoff_30 : decode cX7_cutoff 30 = .ok (.iconst 0, 1) := by decide +kernel
theorem dX7_cutoff_31 : decode cX7_cutoff 31 = .ok (.ireturn, 1) := by decide +kernel
theorem dX7_cutoff_32 : decode cX7_cutoff 32 = .ok (.aload_n 0, 1) := by decide +kernel
theorem dX7_cutoff_33 : decode cX7_cutoff 33 = .ok (.iload_n 1, 1) := by decide +kernel
theorem dX7_cutoff_34 : decode cX7_cutoff 34 = .ok (.invokevirtual 129, 3) := by decide +kernel
theorem dX7_cutoff_37 : decode cX7_cutoff 37 = .ok (.istore_n 3, 1) := by decide +kernel
theorem dX7_cutoff_38 : decode cX7_cutoff 38 = .ok (.iload_n 3, 1) := by decide +kernel
theorem dX7_cutoff_39 : decode cX7_cutoff 39 = .ok (.iconst (-1), 1) := by decide +kernel
theorem dX7_cutoff_40 : decode cX7_cutoff 40 = .ok (.if_icmp .ne 5, 3) := by decide +kernel
theorem dX7_cutoff_43 : decode cX7_cutoff 43 = .ok (.iconst (-1), 1) := by decide +kernel
theorem dX7_cutoff_44 : decode cX7_cutoff 44 = .ok (.ireturn, 1) := by decide +kernel
theorem dX7_cutoff_45 : decode cX7_cutoff 45 = .ok (.iload_n 2, 1) := by decide +kernel
theorem dX7_cutoff_46 : decode cX7_cutoff 46 = .ok (.ifCond .ne 12, 3) := by decide +kernel
theorem dX7_cutoff_49 : decode cX7_cutoff 49 = .ok (.aload_n 0, 1) := by decide +kernel
theorem dX7_cutoff_50 : decode cX7_cutoff 50 = .ok (.iload_n 3, 1) := by decide +kernel
theorem dX7_cutoff_51 : decode cX7_cutoff 51 = .ok (.iload_n 1, 1) := by decide +kernel
theorem dX7_cutoff_52 : decode cX7_cutoff 52 = .ok (.invokevirtual 80, 3) := by decide +kernel
theorem dX7_cutoff_55 : decode cX7_cutoff 55 = .ok (.goto 27, 3) := by decide +kernel
theorem dX7_cutoff_58 : decode cX7_cutoff 58 = .ok (.iload_n 2, 1) := by decide +kernel
theorem dX7_cutoff_59 : decode cX7_cutoff 59 = .ok (.iconst 1, 1) := by decide +kernel
theorem dX7_cutoff_60 : decode cX7_cutoff 60 = .ok (.if_icmp .ne 12, 3) := by decide +kernel
theorem dX7_cutoff_63 : decode cX7_cutoff 63 = .ok (.aload_n 0, 1) := by decide +kernel
theorem dX7_cutoff_64 : decode cX7_cutoff 64 = .ok (.iload_n 3, 1) := by decide +kernel
theorem dX7_cutoff_65 : decode cX7_cutoff 65 = .ok (.iload_n 1, 1) := by decide +kernel
theorem dX7_cutoff_66 : decode cX7_cutoff 66 = .ok (.invokevirtual 84, 3) := by decide +kernel
theorem dX7_cutoff_69 : decode cX7_cutoff 69 = .ok (.goto 13, 3) := by decide +kernel
theorem dX7_cutoff_72 : decode cX7_cutoff 72 = .ok (.aload_n 0, 1) := by decide +kernel
theorem dX7_cutoff_73 : decode cX7_cutoff 73 = .ok (.getfield 7, 3) := by decide +kernel
theorem dX7_cutoff_76 : decode cX7_cutoff 76 = .ok (.sipush 284, 3) := by decide +kernel
theorem dX7_cutoff_79 : decode cX7_cutoff 79 = .ok (.iload_n 3, 1) := by decide +kernel
theorem dX7_cutoff_80 : decode cX7_cutoff 80 = .ok (.iadd, 1) := by decide +kernel
theorem dX7_cutoff_81 : decode cX7_cutoff 81 = .ok (.iaload, 1) := by decide +kernel
theorem dX7_cutoff_82 : decode cX7_cutoff 82 = .ok (.ireturn, 1) := by decide +kernel
theorem dX7_nearest_0 : decode cX7_nearest 0 = .ok (.aload_n 0, 1) := by decide +kernel
theorem dX7_nearest_1 : decode cX7_nearest 1 = .ok (.iload_n 1, 1) := by decide +kernel
theorem dX7_nearest_2 : decode cX7_nearest 2 = .ok (.invokevirtual 286, 3) := by decide +kernel
theorem dX7_nearest_5 : decode cX7_nearest 5 = .ok (.ifCond .eq 5, 3) := by decide +kernel
theorem dX7_nearest_8 : decode cX7_nearest 8 = .ok (.iconst 0, 1) := by decide +kernel
theorem dX7_nearest_9 : decode cX7_nearest 9 = .ok (.ireturn, 1) := by decide +kernel
theorem dX7_nearest_10 : decode cX7_nearest 10 = .ok (.iconst (-1), 1) := by decide +kernel
theorem dX7_nearest_11 : decode cX7_nearest 11 = .ok (.istore_n 2, 1) := by decide +kernel
theorem dX7_nearest_12 : decode cX7_nearest 12 = .ok (.iconst 0, 1) := by decide +kernel
theorem dX7_nearest_13 : decode cX7_nearest 13 = .ok (.istore_n 3, 1) := by decide +kernel
theorem dX7_nearest_14 : decode cX7_nearest 14 = .ok (.iload_n 3, 1) := by decide +kernel
theorem dX7_nearest_15 : decode cX7_nearest 15 = .ok (.aload_n 0, 1) := by decide +kernel
theorem dX7_nearest_16 : decode cX7_nearest 16 = .ok (.getfield 7, 3) := by decide +kernel
theorem dX7_nearest_19 : decode cX7_nearest 19 = .ok (.iconst 0, 1) := by decide +kernel
theorem dX7_nearest_20 : decode cX7_nearest 20 = .ok (.iaload, 1) := by decide +kernel
theorem dX7_nearest_21 : decode cX7_nearest 21 = .ok (.if_icmp .ge 31, 3) := by decide +kernel
theorem dX7_nearest_24 : decode cX7_nearest 24 = .ok (.iload_n 2, 1) := by decide +kernel
theorem dX7_nearest_25 : decode cX7_nearest 25 = .ok (.iconst (-1), 1) := by decide +kernel
theorem dX7_nearest_26 : decode cX7_nearest 26 = .ok (.if_icmp .eq 18, 3) := by decide +kernel
theorem dX7_nearest_29 : decode cX7_nearest 29 = .ok (.aload_n 0, 1) := by decide +kernel
theorem dX7_nearest_30 : decode cX7_nearest 30 = .ok (.iload_n 1, 1) := by decide +kernel
theorem dX7_nearest_31 : decode cX7_nearest 31 = .ok (.iload_n 3, 1) := by decide +kernel
theorem dX7_nearest_32 : decode cX7_nearest 32 = .ok (.invokevirtual 84, 3) := by decide +kernel
theorem dX7_nearest_35 : decode cX7_nearest 35 = .ok (.aload_n 0, 1) := by decide +kernel
theorem dX7_nearest_36 : decode cX7_nearest 36 = .ok (.iload_n 1, 1) := by decide +kernel
theorem dX7_nearest_37 : decode cX7_nearest 37 = .ok (.iload_n 2, 1) := by decide +kernel
theorem dX7_nearest_38 : decode cX7_nearest 38 = .ok (.invokevirtual 84, 3) := by decide +kernel
theorem dX7_nearest_41 : decode cX7_nearest 41 = .ok (.if_icmp .ge 5, 3) := by decide +kernel
theorem dX7_nearest_44 : decode cX7_nearest 44 = .ok (.iload_n 3, 1) := by decide +kernel
theorem dX7_nearest_45 : decode cX7_nearest 45 = .ok (.istore_n 2, 1) := by decide +kernel
theorem dX7_nearest_46 : decode cX7_nearest 46 = .ok (.iinc 3 1, 3) := by decide +kernel
theorem dX7_nearest_49 : decode cX7_nearest 49 = .ok (.goto (-35), 3) := by decide +kernel
theorem dX7_nearest_52 : decode cX7_nearest 52 = .ok (.iload_n 2, 1) := by decide +kernel
theorem dX7_nearest_53 : decode cX7_nearest 53 = .ok (.ireturn, 1) := by decide +kernel
theorem dX7_freePlaces_0 : decode cX7_freePlaces 0 = .ok (.aload_n 0, 1) := by decide +kernel
theorem dX7_freePlaces_1 : decode cX7_freePlaces 1 = .ok (.iconst 0, 1) := by decide +kernel
theorem dX7_freePlaces_2 : decode cX7_freePlaces 2 = .ok (.putfield 56, 3) := by decide +kernel
theorem dX7_freePlaces_5 : decode cX7_freePlaces 5 = .ok (.iconst 0, 1) := by decide +kernel
theorem dX7_freePlaces_6 : decode cX7_freePlaces 6 = .ok (.istore_n 1, 1) := by decide +kernel
theorem dX7_freePlaces_7 : decode cX7_freePlaces 7 = .ok (.iconst 0, 1) := by decide +kernel
theorem dX7_freePlaces_8 : decode cX7_freePlaces 8 = .ok (.istore_n 2, 1) := by decide +kernel
theorem dX7_freePlaces_9 : decode cX7_freePlaces 9 = .ok (.iload_n 2, 1) := by decide +kernel
theorem dX7_freePlaces_10 : decode cX7_freePlaces 10 = .ok (.aload_n 0, 1) := by decide +kernel
theorem dX7_freePlaces_11 : decode cX7_freePlaces 11 = .ok (.getfield 7, 3) := by decide +kernel
theorem dX7_freePlaces_14 : decode cX7_freePlaces 14 = .ok (.iconst 0, 1) := by decide +kernel
theorem dX7_freePlaces_15 : decode cX7_freePlaces 15 = .ok (.iaload, 1) := by decide +kernel
theorem dX7_freePlaces_16 : decode cX7_freePlaces 16 = .ok (.if_icmp .ge 31, 3) := by decide +kernel
theorem dX7_freePlaces_19 : decode cX7_freePlaces 19 = .ok (.iload_n 1, 1) := by decide +kernel
theorem dX7_freePlaces_20 : decode cX7_freePlaces 20 = .ok (.iconst 0, 1) := by decide +kernel
theorem dX7_freePlaces_21 : decode cX7_freePlaces 21 = .ok (.aload_n 0, 1) := by decide +kernel
theorem dX7_freePlaces_22 : decode cX7_freePlaces 22 = .ok (.getfield 7, 3) := by decide +kernel
theorem dX7_freePlaces_25 : decode cX7_freePlaces 25 = .ok (.bipush 20, 2) := by decide +kernel
theorem dX7_freePlaces_27 : decode cX7_freePlaces 27 = .ok (.iload_n 2, 1) := by decide +kernel
theorem dX7_freePlaces_28 : decode cX7_freePlaces 28 = .ok (.iadd, 1) := by decide +kernel
theorem dX7_freePlaces_29 : decode cX7_freePlaces 29 = .ok (.iaload, 1) := by decide +kernel
theorem dX7_freePlaces_30 : decode cX7_freePlaces 30 = .ok (.aload_n 0, 1) := by decide +kernel
theorem dX7_freePlaces_31 : decode cX7_freePlaces 31 = .ok (.iload_n 2, 1) := by decide +kernel
theorem dX7_freePlaces_32 : decode cX7_freePlaces 32 = .ok (.invokevirtual 112, 3) := by decide +kernel
theorem dX7_freePlaces_35 : decode cX7_freePlaces 35 = .ok (.isub, 1) := by decide +kernel
theorem dX7_freePlaces_36 : decode cX7_freePlaces 36 = .ok (.invokestatic 337, 3) := by decide +kernel
theorem dX7_freePlaces_39 : decode cX7_freePlaces 39 = .ok (.iadd, 1) := by decide +kernel
theorem dX7_freePlaces_40 : decode cX7_freePlaces 40 = .ok (.istore_n 1, 1) := by decide +kernel
theorem dX7_freePlaces_41 : decode cX7_freePlaces 41 = .ok (.iinc 2 1, 3) := by decide +kernel
theorem dX7_freePlaces_44 : decode cX7_freePlaces 44 = .ok (.goto (-35), 3) := by decide +kernel
theorem dX7_freePlaces_47 : decode cX7_freePlaces 47 = .ok (.iload_n 1, 1) := by decide +kernel
theorem dX7_freePlaces_48 : decode cX7_freePlaces 48 = .ok (.ireturn, 1) := by decide +kernel
theorem dX7_begins_0 : decode cX7_begins 0 = .ok (.aload_n 0, 1) := by decide +kernel
theorem dX7_begins_1 : decode cX7_begins 1 = .ok (.getfield 7, 3) := by decide +kernel
theorem dX7_begins_4 : decode cX7_begins 4 = .ok (.iconst 0, 1) := by decide +kernel
theorem dX7_begins_5 : decode cX7_begins 5 = .ok (.aload_n 0, 1) := by decide +kernel
theorem dX7_begins_6 : decode cX7_begins 6 = .ok (.getfield 16, 3) := by decide +kernel
theorem dX7_begins_9 : decode cX7_begins 9 = .ok (.iconst 0, 1) := by decide +kernel
theorem dX7_begins_10 : decode cX7_begins 10 = .ok (.sipush 764, 3) := by decide +kernel
theorem dX7_begins_13 : decode cX7_begins 13 = .ok (.invokestatic 62, 3) := by decide +kernel
theorem dX7_begins_16 : decode cX7_begins 16 = .ok (.return_, 1) := by decide +kernel
theorem dX7_ends_0 : decode cX7_ends 0 = .ok (.aload_n 0, 1) := by decide +kernel
theorem dX7_ends_1 : decode cX7_ends 1 = .ok (.getfield 16, 3) := by decide +kernel
theorem dX7_ends_4 : decode cX7_ends 4 = .ok (.iconst 0, 1) := by decide +kernel
theorem dX7_ends_5 : decode cX7_ends 5 = .ok (.aload_n 0, 1) := by decide +kernel
theorem dX7_ends_6 : decode cX7_ends 6 = .ok (.getfield 7, 3) := by decide +kernel
theorem dX7_ends_9 : decode cX7_ends 9 = .ok (.iconst 0, 1) := by decide +kernel
theorem dX7_ends_10 : decode cX7_ends 10 = .ok (.sipush 764, 3) := by decide +kernel
theorem dX7_ends_13 : decode cX7_ends 13 = .ok (.invokestatic 62, 3) := by decide +kernel
theorem dX7_ends_16 : decode cX7_ends 16 = .ok (.return_, 1) := by decide +kernel
theorem dX7_chainOf_0 : decode cX7_chainOf 0 = .ok (.aload_n 0, 1) := by decide +kernel
theorem dX7_chainOf_1 : decode cX7_chainOf 1 = .ok (.iload_n 1, 1) := by decide +kernel
theorem dX7_chainOf_2 : decode cX7_chainOf 2 = .ok (.invokevirtual 286, 3) := by decide +kernel
theorem dX7_chainOf_5 : decode cX7_chainOf 5 = .ok (.ifCond .ne 21, 3) := by decide +kernel
theorem dX7_chainOf_8 : decode cX7_chainOf 8 = .ok (.aload_n 0, 1) := by decide +kernel
theorem dX7_chainOf_9 : decode cX7_chainOf 9 = .ok (.getfield 7, 3) := by decide +kernel
theorem dX7_chainOf_12 : decode cX7_chainOf 12 = .ok (.bipush 8, 2) := by decide +kernel
theorem dX7_chainOf_14 : decode cX7_chainOf 14 = .ok (.iaload, 1) := by decide +kernel
theorem dX7_chainOf_15 : decode cX7_chainOf 15 = .ok (.ifCond .eq 11, 3) := by decide +kernel
theorem dX7_chainOf_18 : decode cX7_chainOf 18 = .ok (.aload_n 0, 1) := by decide +kernel
theorem dX7_chainOf_19 : decode cX7_chainOf 19 = .ok (.iload_n 1, 1) := by decide +kernel
theorem dX7_chainOf_20 : decode cX7_chainOf 20 = .ok (.invokevirtual 90, 3) := by decide +kernel
theorem dX7_chainOf_23 : decode cX7_chainOf 23 = .ok (.ifCond .ne 5, 3) := by decide +kernel
theorem dX7_chainOf_26 : decode cX7_chainOf 26 = .ok (.iconst 0, 1) := by decide +kernel
theorem dX7_chainOf_27 : decode cX7_chainOf 27 = .ok (.ireturn, 1) := by decide +kernel
theorem dX7_chainOf_28 : decode cX7_chainOf 28 = .ok (.aload_n 0, 1) := by decide +kernel
theorem dX7_chainOf_29 : decode cX7_chainOf 29 = .ok (.invokevirtual 342, 3) := by decide +kernel
theorem dX7_chainOf_32 : decode cX7_chainOf 32 = .ok (.aload_n 0, 1) := by decide +kernel
theorem dX7_chainOf_33 : decode cX7_chainOf 33 = .ok (.iload_n 1, 1) := by decide +kernel
theorem dX7_chainOf_34 : decode cX7_chainOf 34 = .ok (.invokevirtual 316, 3) := by decide +kernel
theorem dX7_chainOf_37 : decode cX7_chainOf 37 = .ok (.aload_n 0, 1) := by decide +kernel
theorem dX7_chainOf_38 : decode cX7_chainOf 38 = .ok (.invokevirtual 313, 3) := by decide +kernel
theorem dX7_chainOf_41 : decode cX7_chainOf 41 = .ok (.aload_n 0, 1) := by decide +kernel
theorem dX7_chainOf_42 : decode cX7_chainOf 42 = .ok (.getfield 7, 3) := by decide +kernel
theorem dX7_chainOf_45 : decode cX7_chainOf 45 = .ok (.bipush 10, 2) := by decide +kernel
theorem dX7_chainOf_47 : decode cX7_chainOf 47 = .ok (.iaload, 1) := by decide +kernel
theorem dX7_chainOf_48 : decode cX7_chainOf 48 = .ok (.aload_n 0, 1) := by decide +kernel
theorem dX7_chainOf_49 : decode cX7_chainOf 49 = .ok (.getfield 16, 3) := by decide +kernel
theorem dX7_chainOf_52 : decode cX7_chainOf 52 = .ok (.bipush 10, 2) := by decide +kernel
theorem dX7_chainOf_54 : decode cX7_chainOf 54 = .ok (.iaload, 1) := by decide +kernel
theorem dX7_chainOf_55 : decode cX7_chainOf 55 = .ok (.isub, 1) := by decide +kernel
theorem dX7_chainOf_56 : decode cX7_chainOf 56 = .ok (.istore_n 2, 1) := by decide +kernel
theorem dX7_chainOf_57 : decode cX7_chainOf 57 = .ok (.aload_n 0, 1) := by decide +kernel
theorem dX7_chainOf_58 : decode cX7_chainOf 58 = .ok (.invokevirtual 345, 3) := by decide +kernel
theorem dX7_chainOf_61 : decode cX7_chainOf 61 = .ok (.iload_n 2, 1) := by decide +kernel
theorem dX7_chainOf_62 : decode cX7_chainOf 62 = .ok (.ireturn, 1) := by decide +kernel
theorem dX7_changedByAllocation_0 : decode cX7_changedByAllocation 0 = .ok (.aload_n 0, 1) := by decide +kernel
theorem dX7_changedByAllocation_1 : decode cX7_changedByAllocation 1 = .ok (.iconst 0, 1) := by decide +kernel
theorem dX7_changedByAllocation_2 : decode cX7_changedByAllocation 2 = .ok (.putfield 56, 3) := by decide +kernel
theorem dX7_changedByAllocation_5 : decode cX7_changedByAllocation 5 = .ok (.aload_n 0, 1) := by decide +kernel
theorem dX7_changedByAllocation_6 : decode cX7_changedByAllocation 6 = .ok (.invokevirtual 342, 3) := by decide +kernel
theorem dX7_changedByAllocation_9 : decode cX7_changedByAllocation 9 = .ok (.aload_n 0, 1) := by decide +kernel
theorem dX7_changedByAllocation_10 : decode cX7_changedByAllocation 10 = .ok (.invokevirtual 307, 3) := by decide +kernel
theorem dX7_changedByAllocation_13 : decode cX7_changedByAllocation 13 = .ok (.istore_n 1, 1) := by decide +kernel
theorem dX7_changedByAllocation_14 : decode cX7_changedByAllocation 14 = .ok (.iconst 0, 1) := by decide +kernel
theorem dX7_changedByAllocation_15 : decode cX7_changedByAllocation 15 = .ok (.istore_n 2, 1) := by decide +kernel
theorem dX7_changedByAllocation_16 : decode cX7_changedByAllocation 16 = .ok (.iconst 0, 1) := by decide +kernel
theorem dX7_changedByAllocation_17 : decode cX7_changedByAllocation 17 = .ok (.istore_n 3, 1) := by decide +kernel
theorem dX7_changedByAllocation_18 : decode cX7_changedByAllocation 18 = .ok (.iload_n 3, 1) := by decide +kernel
theorem dX7_changedByAllocation_19 : decode cX7_changedByAllocation 19 = .ok (.aload_n 0, 1) := by decide +kernel
theorem dX7_changedByAllocation_20 : decode cX7_changedByAllocation 20 = .ok (.getfield 7, 3) := by decide +kernel
theorem dX7_changedByAllocation_23 : decode cX7_changedByAllocation 23 = .ok (.iconst 1, 1) := by decide +kernel
theorem dX7_changedByAllocation_24 : decode cX7_changedByAllocation 24 = .ok (.iaload, 1) := by decide +kernel
theorem dX7_changedByAllocation_25 : decode cX7_changedByAllocation 25 = .ok (.if_icmp .ge 44, 3) := by decide +kernel
theorem dX7_changedByAllocation_28 : decode cX7_changedByAllocation 28 = .ok (.iload_n 1, 1) := by decide +kernel
theorem dX7_changedByAllocation_29 : decode cX7_changedByAllocation 29 = .ok (.ifCond .lt 40, 3) := by decide +kernel
theorem dX7_changedByAllocation_32 : decode cX7_changedByAllocation 32 = .ok (.iload_n 2, 1) := by decide +kernel
theorem dX7_changedByAllocation_33 : decode cX7_changedByAllocation 33 = .ok (.aload_n 0, 1) := by decide +kernel
theorem dX7_changedByAllocation_34 : decode cX7_changedByAllocation 34 = .ok (.getfield 7, 3) := by decide +kernel
theorem dX7_changedByAllocation_37 : decode cX7_changedByAllocation 37 = .ok (.sipush 484, 3) := by decide +kernel
theorem dX7_changedByAllocation_40 : decode cX7_changedByAllocation 40 = .ok (.iload_n 3, 1) := by decide +kernel
theorem dX7_changedByAllocation_41 : decode cX7_changedByAllocation 41 = .ok (.iadd, 1) := by decide +kernel
theorem dX7_changedByAllocation_42 : decode cX7_changedByAllocation 42 = .ok (.iaload, 1) := by decide +kernel
theorem dX7_changedByAllocation_43 : decode cX7_changedByAllocation 43 = .ok (.aload_n 0, 1) := by decide +kernel
theorem dX7_changedByAllocation_44 : decode cX7_changedByAllocation 44 = .ok (.getfield 16, 3) := by decide +kernel
theorem dX7_changedByAllocation_47 : decode cX7_changedByAllocation 47 = .ok (.sipush 484, 3) := by decide +kernel
theorem dX7_changedByAllocation_50 : decode cX7_changedByAllocation 50 = .ok (.iload_n 3, 1) := by decide +kernel
theorem dX7_changedByAllocation_51 : decode cX7_changedByAllocation 51 = .ok (.iadd, 1) := by decide +kernel
theorem dX7_changedByAllocation_52 : decode cX7_changedByAllocation 52 = .ok (.iaload, 1) := by decide +kernel
theorem dX7_changedByAllocation_53 : decode cX7_changedByAllocation 53 = .ok (.if_icmp .eq 7, 3) := by decide +kernel
theorem dX7_changedByAllocation_56 : decode cX7_changedByAllocation 56 = .ok (.iconst 1, 1) := by decide +kernel
theorem dX7_changedByAllocation_57 : decode cX7_changedByAllocation 57 = .ok (.goto 4, 3) := by decide +kernel
theorem dX7_changedByAllocation_60 : decode cX7_changedByAllocation 60 = .ok (.iconst 0, 1) := by decide +kernel
theorem dX7_changedByAllocation_61 : decode cX7_changedByAllocation 61 = .ok (.iadd, 1) := by decide +kernel
theorem dX7_changedByAllocation_62 : decode cX7_changedByAllocation 62 = .ok (.istore_n 2, 1) := by decide +kernel
theorem dX7_changedByAllocation_63 : decode cX7_changedByAllocation 63 = .ok (.iinc 3 1, 3) := by decide +kernel
theorem dX7_changedByAllocation_66 : decode cX7_changedByAllocation 66 = .ok (.goto (-48), 3) := by decide +kernel
theorem dX7_changedByAllocation_69 : decode cX7_changedByAllocation 69 = .ok (.aload_n 0, 1) := by decide +kernel
theorem dX7_changedByAllocation_70 : decode cX7_changedByAllocation 70 = .ok (.invokevirtual 345, 3) := by decide +kernel
theorem dX7_changedByAllocation_73 : decode cX7_changedByAllocation 73 = .ok (.iload_n 2, 1) := by decide +kernel
theorem dX7_changedByAllocation_74 : decode cX7_changedByAllocation 74 = .ok (.ireturn, 1) := by decide +kernel
theorem dX7_triesOf_0 : decode cX7_triesOf 0 = .ok (.aload_n 0, 1) := by decide +kernel
theorem dX7_triesOf_1 : decode cX7_triesOf 1 = .ok (.iload_n 1, 1) := by decide +kernel
theorem dX7_triesOf_2 : decode cX7_triesOf 2 = .ok (.invokevirtual 289, 3) := by decide +kernel
theorem dX7_triesOf_5 : decode cX7_triesOf 5 = .ok (.ifCond .eq 5, 3) := by decide +kernel
theorem dX7_triesOf_8 : decode cX7_triesOf 8 = .ok (.iconst 0, 1) := by decide +kernel
theorem dX7_triesOf_9 : decode cX7_triesOf 9 = .ok (.ireturn, 1) := by decide +kernel
theorem dX7_triesOf_10 : decode cX7_triesOf 10 = .ok (.aload_n 0, 1) := by decide +kernel
theorem dX7_triesOf_11 : decode cX7_triesOf 11 = .ok (.invokevirtual 342, 3) := by decide +kernel
theorem dX7_triesOf_14 : decode cX7_triesOf 14 = .ok (.aload_n 0, 1) := by decide +kernel
theorem dX7_triesOf_15 : decode cX7_triesOf 15 = .ok (.invokevirtual 307, 3) := by decide +kernel
theorem dX7_triesOf_18 : decode cX7_triesOf 18 = .ok (.istore_n 2, 1) := by decide +kernel
theorem dX7_triesOf_19 : decode cX7_triesOf 19 = .ok (.iconst 0, 1) := by decide +kernel
theorem dX7_triesOf_20 : decode cX7_triesOf 20 = .ok (.istore_n 3, 1) := by decide +kernel
theorem dX7_triesOf_21 : decode cX7_triesOf 21 = .ok (.iconst 0, 1) := by decide +kernel
theorem dX7_triesOf_22 : decode cX7_triesOf 22 = .ok (.istore 4, 2) := by decide +kernel
theorem dX7_triesOf_24 : decode cX7_triesOf 24 = .ok (.iload 4, 2) := by decide +kernel
theorem dX7_triesOf_26 : decode cX7_triesOf 26 = .ok (.aload_n 0, 1) := by decide +kernel
theorem dX7_triesOf_27 : decode cX7_triesOf 27 = .ok (.getfield 7, 3) := by decide +kernel
theorem dX7_triesOf_30 : decode cX7_triesOf 30 = .ok (.iconst 1, 1) := by decide +kernel
theorem dX7_triesOf_31 : decode cX7_triesOf 31 = .ok (.iaload, 1) := by decide +kernel
theorem dX7_triesOf_32 : decode cX7_triesOf 32 = .ok (.if_icmp .ge 44, 3) := by decide +kernel
theorem dX7_triesOf_35 : decode cX7_triesOf 35 = .ok (.iload_n 2, 1) := by decide +kernel
theorem dX7_triesOf_36 : decode cX7_triesOf 36 = .ok (.ifCond .lt 40, 3) := by decide +kernel
theorem dX7_triesOf_39 : decode cX7_triesOf 39 = .ok (.iload_n 3, 1) := by decide +kernel
theorem dX7_triesOf_40 : decode cX7_triesOf 40 = .ok (.aload_n 0, 1) := by decide +kernel
theorem dX7_triesOf_41 : decode cX7_triesOf 41 = .ok (.iload 4, 2) := by decide +kernel
theorem dX7_triesOf_43 : decode cX7_triesOf 43 = .ok (.iload_n 1, 1) := by decide +kernel
theorem dX7_triesOf_44 : decode cX7_triesOf 44 = .ok (.invokevirtual 87, 3) := by decide +kernel
theorem dX7_triesOf_47 : decode cX7_triesOf 47 = .ok (.iconst 0, 1) := by decide +kernel
theorem dX7_triesOf_48 : decode cX7_triesOf 48 = .ok (.aload_n 0, 1) := by decide +kernel
theorem dX7_triesOf_49 : decode cX7_triesOf 49 = .ok (.getfield 31, 3) := by decide +kernel
theorem dX7_triesOf_52 : decode cX7_triesOf 52 = .ok (.iload 4, 2) := by decide +kernel
theorem dX7_triesOf_54 : decode cX7_triesOf 54 = .ok (.iaload, 1) := by decide +kernel
theorem dX7_triesOf_55 : decode cX7_triesOf 55 = .ok (.iconst 1, 1) := by decide +kernel
theorem dX7_triesOf_56 : decode cX7_triesOf 56 = .ok (.isub, 1) := by decide +kernel
theorem dX7_triesOf_57 : decode cX7_triesOf 57 = .ok (.invokestatic 66, 3) := by decide +kernel
theorem dX7_triesOf_60 : decode cX7_triesOf 60 = .ok (.ifCond .eq 7, 3) := by decide +kernel
theorem dX7_triesOf_63 : decode cX7_triesOf 63 = .ok (.iconst 1, 1) := by decide +kernel
theorem dX7_triesOf_64 : decode cX7_triesOf 64 = .ok (.goto 4, 3) := by decide +kernel
theorem dX7_triesOf_67 : decode cX7_triesOf 67 = .ok (.iconst 0, 1) := by decide +kernel
theorem dX7_triesOf_68 : decode cX7_triesOf 68 = .ok (.iadd, 1) := by decide +kernel
theorem dX7_triesOf_69 : decode cX7_triesOf 69 = .ok (.istore_n 3, 1) := by decide +kernel
theorem dX7_triesOf_70 : decode cX7_triesOf 70 = .ok (.iinc 4 1, 3) := by decide +kernel
theorem dX7_triesOf_73 : decode cX7_triesOf 73 = .ok (.goto (-49), 3) := by decide +kernel
theorem dX7_triesOf_76 : decode cX7_triesOf 76 = .ok (.aload_n 0, 1) := by decide +kernel
theorem dX7_triesOf_77 : decode cX7_triesOf 77 = .ok (.invokevirtual 345, 3) := by decide +kernel
theorem dX7_triesOf_80 : decode cX7_triesOf 80 = .ok (.iload_n 3, 1) := by decide +kernel
theorem dX7_triesOf_81 : decode cX7_triesOf 81 = .ok (.ireturn, 1) := by decide +kernel
theorem dX7_placeIn_0 : decode cX7_placeIn 0 = .ok (.aload_n 0, 1) := by decide +kernel
theorem dX7_placeIn_1 : decode cX7_placeIn 1 = .ok (.invokevirtual 342, 3) := by decide +kernel
theorem dX7_placeIn_4 : decode cX7_placeIn 4 = .ok (.aload_n 0, 1) := by decide +kernel
theorem dX7_placeIn_5 : decode cX7_placeIn 5 = .ok (.getfield 7, 3) := by decide +kernel
theorem dX7_placeIn_8 : decode cX7_placeIn 8 = .ok (.bipush 20, 2) := by decide +kernel
theorem dX7_placeIn_10 : decode cX7_placeIn 10 = .ok (.iload_n 2, 1) := by decide +kernel
theorem dX7_placeIn_11 : decode cX7_placeIn 11 = .ok (.iadd, 1) := by decide +kernel
theorem dX7_placeIn_12 : decode cX7_placeIn 12 = .ok (.iload_n 3, 1) := by decide +kernel
theorem dX7_placeIn_13 : decode cX7_placeIn 13 = .ok (.iastore, 1) := by decide +kernel
theorem dX7_placeIn_14 : decode cX7_placeIn 14 = .ok (.aload_n 0, 1) := by decide +kernel
theorem dX7_placeIn_15 : decode cX7_placeIn 15 = .ok (.invokevirtual 307, 3) := by decide +kernel
theorem dX7_placeIn_18 : decode cX7_placeIn 18 = .ok (.istore 4, 2) := by decide +kernel
theorem dX7_placeIn_20 : decode cX7_placeIn 20 = .ok (.iload 4, 2) := by decide +kernel
theorem dX7_placeIn_22 : decode cX7_placeIn 22 = .ok (.ifCond .lt 16, 3) := by decide +kernel
theorem dX7_placeIn_25 : decode cX7_placeIn 25 = .ok (.aload_n 0, 1) := by decide +kernel
theorem dX7_placeIn_26 : decode cX7_placeIn 26 = .ok (.getfield 7, 3) := by decide +kernel
theorem dX7_placeIn_29 : decode cX7_placeIn 29 = .ok (.sipush 484, 3) := by decide +kernel
theorem dX7_placeIn_32 : decode cX7_placeIn 32 = .ok (.iload_n 1, 1) := by decide +kernel
theorem dX7_placeIn_33 : decode cX7_placeIn 33 = .ok (.iadd, 1) := by decide +kernel
theorem dX7_placeIn_34 : decode cX7_placeIn 34 = .ok (.iaload, 1) := by decide +kernel
theorem dX7_placeIn_35 : decode cX7_placeIn 35 = .ok (.goto 4, 3) := by decide +kernel
theorem dX7_placeIn_38 : decode cX7_placeIn 38 = .ok (.iconst (-1), 1) := by decide +kernel
theorem dX7_placeIn_39 : decode cX7_placeIn 39 = .ok (.istore 5, 2) := by decide +kernel
theorem dX7_placeIn_41 : decode cX7_placeIn 41 = .ok (.aload_n 0, 1) := by decide +kernel
theorem dX7_placeIn_42 : decode cX7_placeIn 42 = .ok (.invokevirtual 345, 3) := by decide +kernel
theorem dX7_placeIn_45 : decode cX7_placeIn 45 = .ok (.iload 5, 2) := by decide +kernel
theorem dX7_placeIn_47 : decode cX7_placeIn 47 = .ok (.ireturn, 1) := by decide +kernel
theorem dX7_placeWith_0 : decode cX7_placeWith 0 = .ok (.aload_n 0, 1) := by decide +kernel
theorem dX7_placeWith_1 : decode cX7_placeWith 1 = .ok (.iload_n 1, 1) := by decide +kernel
theorem dX7_placeWith_2 : decode cX7_placeWith 2 = .ok (.iload_n 2, 1) := by decide +kernel
theorem dX7_placeWith_3 : decode cX7_placeWith 3 = .ok (.invokevirtual 298, 3) := by decide +kernel
theorem dX7_placeWith_6 : decode cX7_placeWith 6 = .ok (.ifCond .ne 26, 3) := by decide +kernel
theorem dX7_placeWith_9 : decode cX7_placeWith 9 = .ok (.aload_n 0, 1) := by decide +kernel
theorem dX7_placeWith_10 : decode cX7_placeWith 10 = .ok (.iload_n 3, 1) := by decide +kernel
theorem dX7_placeWith_11 : decode cX7_placeWith 11 = .ok (.iconst 0, 1) := by decide +kernel
theorem dX7_placeWith_12 : decode cX7_placeWith 12 = .ok (.bipush 40, 2) := by decide +kernel
theorem dX7_placeWith_14 : decode cX7_placeWith 14 = .ok (.invokestatic 66, 3) := by decide +kernel
theorem dX7_placeWith_17 : decode cX7_placeWith 17 = .ok (.ifCond .ne 7, 3) := by decide +kernel
theorem dX7_placeWith_20 : decode cX7_placeWith 20 = .ok (.iconst 1, 1) := by decide +kernel
theorem dX7_placeWith_21 : decode cX7_placeWith 21 = .ok (.goto 4, 3) := by decide +kernel
theorem dX7_placeWith_24 : decode cX7_placeWith 24 = .ok (.iconst 0, 1) := by decide +kernel
theorem dX7_placeWith_25 : decode cX7_placeWith 25 = .ok (.iconst 2, 1) := by decide +kernel
theorem dX7_placeWith_26 : decode cX7_placeWith 26 = .ok (.invokevirtual 279, 3) := by decide +kernel
theorem dX7_placeWith_29 : decode cX7_placeWith 29 = .ok (.ifCond .eq 5, 3) := by decide +kernel
theorem dX7_placeWith_32 : decode cX7_placeWith 32 = .ok (.iconst 0, 1) := by decide +kernel
theorem dX7_placeWith_33 : decode cX7_placeWith 33 = .ok (.ireturn, 1) := by decide +kernel
theorem dX7_placeWith_34 : decode cX7_placeWith 34 = .ok (.aload_n 0, 1) := by decide +kernel
theorem dX7_placeWith_35 : decode cX7_placeWith 35 = .ok (.iload_n 1, 1) := by decide +kernel
theorem dX7_placeWith_36 : decode cX7_placeWith 36 = .ok (.iload_n 2, 1) := by decide +kernel
theorem dX7_placeWith_37 : decode cX7_placeWith 37 = .ok (.iload_n 3, 1) := by decide +kernel
theorem dX7_placeWith_38 : decode cX7_placeWith 38 = .ok (.invokevirtual 348, 3) := by decide +kernel
theorem dX7_placeWith_41 : decode cX7_placeWith 41 = .ok (.ireturn, 1) := by decide +kernel
theorem dX7_neededCapacity_0 : decode cX7_neededCapacity 0 = .ok (.aload_n 0, 1) := by decide +kernel
theorem dX7_neededCapacity_1 : decode cX7_neededCapacity 1 = .ok (.iload_n 1, 1) := by decide +kernel
theorem dX7_neededCapacity_2 : decode cX7_neededCapacity 2 = .ok (.iload_n 2, 1) := by decide +kernel
theorem dX7_neededCapacity_3 : decode cX7_neededCapacity 3 = .ok (.invokevirtual 298, 3) := by decide +kernel
theorem dX7_neededCapacity_6 : decode cX7_neededCapacity 6 = .ok (.ifCond .eq 5, 3) := by decide +kernel
theorem dX7_neededCapacity_9 : decode cX7_neededCapacity 9 = .ok (.iconst 0, 1) := by decide +kernel
theorem dX7_neededCapacity_10 : decode cX7_neededCapacity 10 = .ok (.ireturn, 1) := by decide +kernel
theorem dX7_neededCapacity_11 : decode cX7_neededCapacity 11 = .ok (.iconst 0, 1) := by decide +kernel
theorem dX7_neededCapacity_12 : decode cX7_neededCapacity 12 = .ok (.istore_n 3, 1) := by decide +kernel
theorem dX7_neededCapacity_13 : decode cX7_neededCapacity 13 = .ok (.iload_n 3, 1) := by decide +kernel
theorem dX7_neededCapacity_14 : decode cX7_neededCapacity 14 = .ok (.bipush 40, 2) := by decide +kernel
theorem dX7_neededCapacity_16 : decode cX7_neededCapacity 16 = .ok (.if_icmp .gt 22, 3) := by decide +kernel
theorem dX7_neededCapacity_19 : decode cX7_neededCapacity 19 = .ok (.aload_n 0, 1) := by decide +kernel
theorem dX7_neededCapacity_20 : decode cX7_neededCapacity 20 = .ok (.iload_n 1, 1) := by decide +kernel
theorem dX7_neededCapacity_21 : decode cX7_neededCapacity 21 = .ok (.iload_n 2, 1) := by decide +kernel
theorem dX7_neededCapacity_22 : decode cX7_neededCapacity 22 = .ok (.iload_n 3, 1) := by decide +kernel
theorem dX7_neededCapacity_23 : decode cX7_neededCapacity 23 = .ok (.invokevirtual 348, 3) := by decide +kernel
theorem dX7_neededCapacity_26 : decode cX7_neededCapacity 26 = .ok (.iload_n 2, 1) := by decide +kernel
theorem dX7_neededCapacity_27 : decode cX7_neededCapacity 27 = .ok (.if_icmp .ne 5, 3) := by decide +kernel
theorem dX7_neededCapacity_30 : decode cX7_neededCapacity 30 = .ok (.iload_n 3, 1) := by decide +kernel
theorem dX7_neededCapacity_31 : decode cX7_neededCapacity 31 = .ok (.ireturn, 1) := by decide +kernel
theorem dX7_neededCapacity_32 : decode cX7_neededCapacity 32 = .ok (.iinc 3 1, 3) := by decide +kernel
theorem dX7_neededCapacity_35 : decode cX7_neededCapacity 35 = .ok (.goto (-22), 3) := by decide +kernel
theorem dX7_neededCapacity_38 : decode cX7_neededCapacity 38 = .ok (.iconst (-1), 1) := by decide +kernel
theorem dX7_neededCapacity_39 : decode cX7_neededCapacity 39 = .ok (.ireturn, 1) := by decide +kernel
theorem dX7_isBetter_0 : decode cX7_isBetter 0 = .ok (.iload_n 0, 1) := by decide +kernel
theorem dX7_isBetter_1 : decode cX7_isBetter 1 = .ok (.iconst (-1), 1) := by decide +kernel
theorem dX7_isBetter_2 : decode cX7_isBetter 2 = .ok (.if_icmp .eq 17, 3) := by decide +kernel
theorem dX7_isBetter_5 : decode cX7_isBetter 5 = .ok (.iload_n 1, 1) := by decide +kernel
theorem dX7_isBetter_6 : decode cX7_isBetter 6 = .ok (.iconst (-1), 1) := by decide +kernel
theorem dX7_isBetter_7 : decode cX7_isBetter 7 = .ok (.if_icmp .eq 8, 3) := by decide +kernel
theorem dX7_isBetter_10 : decode cX7_isBetter 10 = .ok (.iload_n 0, 1) := by decide +kernel
theorem dX7_isBetter_11 : decode cX7_isBetter 11 = .ok (.iload_n 1, 1) := by decide +kernel
theorem dX7_isBetter_12 : decode cX7_isBetter 12 = .ok (.if_icmp .ge 7, 3) := by decide +kernel
theorem dX7_isBetter_15 : decode cX7_isBetter 15 = .ok (.iconst 1, 1) := by decide +kernel
theorem dX7_isBetter_16 : decode cX7_isBetter 16 = .ok (.goto 4, 3) := by decide +kernel
theorem dX7_isBetter_19 : decode cX7_isBetter 19 = .ok (.iconst 0, 1) := by decide +kernel
theorem dX7_isBetter_20 : decode cX7_isBetter 20 = .ok (.ireturn, 1) := by decide +kernel
theorem dX7_gainersWithout_0 : decode cX7_gainersWithout 0 = .ok (.aload_n 0, 1) := by decide +kernel
theorem dX7_gainersWithout_1 : decode cX7_gainersWithout 1 = .ok (.iload_n 1, 1) := by decide +kernel
theorem dX7_gainersWithout_2 : decode cX7_gainersWithout 2 = .ok (.invokevirtual 286, 3) := by decide +kernel
theorem dX7_gainersWithout_5 : decode cX7_gainersWithout 5 = .ok (.ifCond .eq 5, 3) := by decide +kernel
theorem dX7_gainersWithout_8 : decode cX7_gainersWithout 8 = .ok (.lconst 0, 1) := by decide +kernel
theorem dX7_gainersWithout_9 : decode cX7_gainersWithout 9 = .ok (.lreturn, 1) := by decide +kernel
theorem dX7_gainersWithout_10 : decode cX7_gainersWithout 10 = .ok (.aload_n 0, 1) := by decide +kernel
theorem dX7_gainersWithout_11 : decode cX7_gainersWithout 11 = .ok (.invokevirtual 342, 3) := by decide +kernel
theorem dX7_gainersWithout_14 : decode cX7_gainersWithout 14 = .ok (.aload_n 0, 1) := by decide +kernel
theorem dX7_gainersWithout_15 : decode cX7_gainersWithout 15 = .ok (.invokevirtual 307, 3) := by decide +kernel
theorem dX7_gainersWithout_18 : decode cX7_gainersWithout 18 = .ok (.istore_n 2, 1) := by decide +kernel
theorem dX7_gainersWithout_19 : decode cX7_gainersWithout 19 = .ok (.iconst 0, 1) := by decide +kernel
theorem dX7_gainersWithout_20 : decode cX7_gainersWithout 20 = .ok (.istore_n 3, 1) := by decide +kernel
theorem dX7_gainersWithout_21 : decode cX7_gainersWithout 21 = .ok (.iload_n 3, 1) := by decide +kernel
theorem dX7_gainersWithout_22 : decode cX7_gainersWithout 22 = .ok (.aload_n 0, 1) := by decide +kernel
theorem dX7_gainersWithout_23 : decode cX7_gainersWithout 23 = .ok (.getfield 7, 3) := by decide +kernel
theorem dX7_gainersWithout_26 : decode cX7_gainersWithout 26 = .ok (.iconst 1, 1) := by decide +kernel
theorem dX7_gainersWithout_27 : decode cX7_gainersWithout 27 = .ok (.iaload, 1) := by decide +kernel
theorem dX7_gainersWithout_28 : decode cX7_gainersWithout 28 = .ok (.if_icmp .ge 20, 3) := by decide +kernel
theorem dX7_gainersWithout_31 : decode cX7_gainersWithout 31 = .ok (.aload_n 0, 1) := by decide +kernel
theorem dX7_gainersWithout_32 : decode cX7_gainersWithout 32 = .ok (.getfield 44, 3) := by decide +kernel
theorem dX7_gainersWithout_35 : decode cX7_gainersWithout 35 = .ok (.iload_n 3, 1) := by decide +kernel
theorem dX7_gainersWithout_36 : decode cX7_gainersWithout 36 = .ok (.aload_n 0, 1) := by decide +kernel
theorem dX7_gainersWithout_37 : decode cX7_gainersWithout 37 = .ok (.iload_n 3, 1) := by decide +kernel
theorem dX7_gainersWithout_38 : decode cX7_gainersWithout 38 = .ok (.invokevirtual 94, 3) := by decide +kernel
theorem dX7_gainersWithout_41 : decode cX7_gainersWithout 41 = .ok (.iastore, 1) := by decide +kernel
theorem dX7_gainersWithout_42 : decode cX7_gainersWithout 42 = .ok (.iinc 3 1, 3) := by decide +kernel
theorem dX7_gainersWithout_45 : decode cX7_gainersWithout 45 = .ok (.goto (-24), 3) := by decide +kernel
theorem dX7_gainersWithout_48 : decode cX7_gainersWithout 48 = .ok (.aload_n 0, 1) := by decide +kernel
theorem dX7_gainersWithout_49 : decode cX7_gainersWithout 49 = .ok (.getfield 7, 3) := by decide +kernel
theorem dX7_gainersWithout_52 : decode cX7_gainersWithout 52 = .ok (.sipush 404, 3) := by decide +kernel
theorem dX7_gainersWithout_55 : decode cX7_gainersWithout 55 = .ok (.iload_n 1, 1) := by decide +kernel
theorem dX7_gainersWithout_56 : decode cX7_gainersWithout 56 = .ok (.iadd, 1) := by decide +kernel
theorem dX7_gainersWithout_57 : decode cX7_gainersWithout 57 = .ok (.iconst 1, 1) := by decide +kernel
theorem dX7_gainersWithout_58 : decode cX7_gainersWithout 58 = .ok (.iastore, 1) := by decide +kernel
theorem dX7_gainersWithout_59 : decode cX7_gainersWithout 59 = .ok (.iload_n 2, 1) := by decide +kernel
theorem dX7_gainersWithout_60 : decode cX7_gainersWithout 60 = .ok (.aload_n 0, 1) := by decide +kernel
theorem dX7_gainersWithout_61 : decode cX7_gainersWithout 61 = .ok (.invokevirtual 307, 3) := by decide +kernel
theorem dX7_gainersWithout_64 : decode cX7_gainersWithout 64 = .ok (.iadd, 1) := by decide +kernel
theorem dX7_gainersWithout_65 : decode cX7_gainersWithout 65 = .ok (.istore_n 2, 1) := by decide +kernel
theorem dX7_gainersWithout_66 : decode cX7_gainersWithout 66 = .ok (.lconst 0, 1) := by decide +kernel
theorem dX7_gainersWithout_67 : decode cX7_gainersWithout 67 = .ok (.lstore_n 3, 1) := by decide +kernel
theorem dX7_gainersWithout_68 : decode cX7_gainersWithout 68 = .ok (.iconst 0, 1) := by decide +kernel
theorem dX7_gainersWithout_69 : decode cX7_gainersWithout 69 = .ok (.istore 5, 2) := by decide +kernel
theorem dX7_gainersWithout_71 : decode cX7_gainersWithout 71 = .ok (.iload 5, 2) := by decide +kernel
theorem dX7_gainersWithout_73 : decode cX7_gainersWithout 73 = .ok (.aload_n 0, 1) := by decide +kernel
theorem dX7_gainersWithout_74 : decode cX7_gainersWithout 74 = .ok (.getfield 7, 3) := by decide +kernel
theorem dX7_gainersWithout_77 : decode cX7_gainersWithout 77 = .ok (.iconst 1, 1) := by decide +kernel
theorem dX7_gainersWithout_78 : decode cX7_gainersWithout 78 = .ok (.iaload, 1) := by decide +kernel
theorem dX7_gainersWithout_79 : decode cX7_gainersWithout 79 = .ok (.if_icmp .ge 45, 3) := by decide +kernel
theorem dX7_gainersWithout_82 : decode cX7_gainersWithout 82 = .ok (.lload_n 3, 1) := by decide +kernel
theorem dX7_gainersWithout_83 : decode cX7_gainersWithout 83 = .ok (.iload 5, 2) := by decide +kernel
theorem dX7_gainersWithout_85 : decode cX7_gainersWithout 85 = .ok (.iload_n 1, 1) := by decide +kernel
theorem dX7_gainersWithout_86 : decode cX7_gainersWithout 86 = .ok (.if_icmp .eq 29, 3) := by decide +kernel
theorem dX7_gainersWithout_89 : decode cX7_gainersWithout 89 = .ok (.aload_n 0, 1) := by decide +kernel
theorem dX7_gainersWithout_90 : decode cX7_gainersWithout 90 = .ok (.iload 5, 2) := by decide +kernel
theorem dX7_gainersWithout_92 : decode cX7_gainersWithout 92 = .ok (.invokevirtual 94, 3) := by decide +kernel
theorem dX7_gainersWithout_95 : decode cX7_gainersWithout 95 = .ok (.aload_n 0, 1) := by decide +kernel
theorem dX7_gainersWithout_96 : decode cX7_gainersWithout 96 = .ok (.getfield 44, 3) := by decide +kernel
theorem dX7_gainersWithout_99 : decode cX7_gainersWithout 99 = .ok (.iload 5, 2) := by decide +kernel
theorem dX7_gainersWithout_101 : decode cX7_gainersWithout 101 = .ok (.iaload, 1) := by decide +kernel
theorem dX7_gainersWithout_102 : decode cX7_gainersWithout 102 = .ok (.invokestatic 352, 3) := by decide +kernel
theorem dX7_gainersWithout_105 : decode cX7_gainersWithout 105 = .ok (.ifCond .eq 10, 3) := by decide +kernel
theorem dX7_gainersWithout_108 : decode cX7_gainersWithout 108 = .ok (.lconst 1, 1) := by decide +kernel
theorem dX7_gainersWithout_109 : decode cX7_gainersWithout 109 = .ok (.iload 5, 2) := by decide +kernel
theorem dX7_gainersWithout_111 : decode cX7_gainersWithout 111 = .ok (.lshl, 1) := by decide +kernel
theorem dX7_gainersWithout_112 : decode cX7_gainersWithout 112 = .ok (.goto 4, 3) := by decide +kernel
theorem dX7_gainersWithout_115 : decode cX7_gainersWithout 115 = .ok (.lconst 0, 1) := by decide +kernel
theorem dX7_gainersWithout_116 : decode cX7_gainersWithout 116 = .ok (.lor, 1) := by decide +kernel
theorem dX7_gainersWithout_117 : decode cX7_gainersWithout 117 = .ok (.lstore_n 3, 1) := by decide +kernel
theorem dX7_gainersWithout_118 : decode cX7_gainersWithout 118 = .ok (.iinc 5 1, 3) := by decide +kernel
theorem dX7_gainersWithout_121 : decode cX7_gainersWithout 121 = .ok (.goto (-50), 3) := by decide +kernel
theorem dX7_gainersWithout_124 : decode cX7_gainersWithout 124 = .ok (.aload_n 0, 1) := by decide +kernel
theorem dX7_gainersWithout_125 : decode cX7_gainersWithout 125 = .ok (.invokevirtual 345, 3) := by decide +kernel
theorem dX7_gainersWithout_128 : decode cX7_gainersWithout 128 = .ok (.lload_n 3, 1) := by decide +kernel
theorem dX7_gainersWithout_129 : decode cX7_gainersWithout 129 = .ok (.lreturn, 1) := by decide +kernel
theorem dX7_orders_0 : decode cX7_orders 0 = .ok (.aload_n 0, 1) := by decide +kernel
theorem dX7_orders_1 : decode cX7_orders 1 = .ok (.getfield 7, 3) := by decide +kernel
theorem dX7_orders_4 : decode cX7_orders 4 = .ok (.sipush 324, 3) := by decide +kernel
theorem dX7_orders_7 : decode cX7_orders 7 = .ok (.iload_n 1, 1) := by decide +kernel
theorem dX7_orders_8 : decode cX7_orders 8 = .ok (.iadd, 1) := by decide +kernel
theorem dX7_orders_9 : decode cX7_orders 9 = .ok (.iaload, 1) := by decide +kernel
theorem dX7_orders_10 : decode cX7_orders 10 = .ok (.istore 4, 2) := by decide +kernel
theorem dX7_orders_12 : decode cX7_orders 12 = .ok (.iload_n 3, 1) := by decide +kernel
theorem dX7_orders_13 : decode cX7_orders 13 = .ok (.iload 4, 2) := by decide +kernel
theorem dX7_orders_15 : decode cX7_orders 15 = .ok (.if_icmp .ge 68, 3) := by decide +kernel
theorem dX7_orders_18 : decode cX7_orders 18 = .ok (.iconst 0, 1) := by decide +kernel
theorem dX7_orders_19 : decode cX7_orders 19 = .ok (.istore 5, 2) := by decide +kernel
theorem dX7_orders_21 : decode cX7_orders 21 = .ok (.iload 5, 2) := by decide +kernel
theorem dX7_orders_23 : decode cX7_orders 23 = .ok (.iload 4, 2) := by decide +kernel
theorem dX7_orders_25 : decode cX7_orders 25 = .ok (.if_icmp .ge 57, 3) := by decide +kernel
theorem dX7_orders_28 : decode cX7_orders 28 = .ok (.iload_n 2, 1) := by decide +kernel
theorem dX7_orders_29 : decode cX7_orders 29 = .ok (.iload 5, 2) := by decide +kernel
theorem dX7_orders_31 : decode cX7_orders 31 = .ok (.ishr, 1) := by decide +kernel
theorem dX7_orders_32 : decode cX7_orders 32 = .ok (.iconst 1, 1) := by decide +kernel
theorem dX7_orders_33 : decode cX7_orders 33 = .ok (.iand, 1) := by decide +kernel
theorem dX7_orders_34 : decode cX7_orders 34 = .ok (.iconst 1, 1) := by decide +kernel
theorem dX7_orders_35 : decode cX7_orders 35 = .ok (.if_icmp .ne 6, 3) := by decide +kernel
theorem dX7_orders_38 : decode cX7_orders 38 = .ok (.goto 38, 3) := by decide +kernel
theorem dX7_orders_41 : decode cX7_orders 41 = .ok (.aload_n 0, 1) := by decide +kernel
theorem dX7_orders_42 : decode cX7_orders 42 = .ok (.getfield 7, 3) := by decide +kernel
theorem dX7_orders_45 : decode cX7_orders 45 = .ok (.sipush 564, 3) := by decide +kernel
theorem dX7_orders_48 : decode cX7_orders 48 = .ok (.iconst 4, 1) := by decide +kernel
theorem dX7_orders_49 : decode cX7_orders 49 = .ok (.iload_n 1, 1) := by decide +kernel
theorem dX7_orders_50 : decode cX7_orders 50 = .ok (.imul, 1) := by decide +kernel
theorem dX7_orders_51 : decode cX7_orders 51 = .ok (.iadd, 1) := by decide +kernel
theorem dX7_orders_52 : decode cX7_orders 52 = .ok (.iload_n 3, 1) := by decide +kernel
theorem dX7_orders_53 : decode cX7_orders 53 = .ok (.iadd, 1) := by decide +kernel
theorem dX7_orders_54 : decode cX7_orders 54 = .ok (.aload_n 0, 1) := by decide +kernel
theorem dX7_orders_55 : decode cX7_orders 55 = .ok (.getfield 47, 3) := by decide +kernel
theorem dX7_orders_58 : decode cX7_orders 58 = .ok (.iload 5, 2) := by decide +kernel
theorem dX7_orders_60 : decode cX7_orders 60 = .ok (.iaload, 1) := by decide +kernel
theorem dX7_orders_61 : decode cX7_orders 61 = .ok (.iastore, 1) := by decide +kernel
theorem dX7_orders_62 : decode cX7_orders 62 = .ok (.aload_n 0, 1) := by decide +kernel
theorem dX7_orders_63 : decode cX7_orders 63 = .ok (.iload_n 1, 1) := by decide +kernel
theorem dX7_orders_64 : decode cX7_orders 64 = .ok (.iload_n 2, 1) := by decide +kernel
theorem dX7_orders_65 : decode cX7_orders 65 = .ok (.iconst 1, 1) := by decide +kernel
theorem dX7_orders_66 : decode cX7_orders 66 = .ok (.iload 5, 2) := by decide +kernel
theorem dX7_orders_68 : decode cX7_orders 68 = .ok (.ishl, 1) := by decide +kernel
theorem dX7_orders_69 : decode cX7_orders 69 = .ok (.ior, 1) := by decide +kernel
theorem dX7_orders_70 : decode cX7_orders 70 = .ok (.iload_n 3, 1) := by decide +kernel
theorem dX7_orders_71 : decode cX7_orders 71 = .ok (.iconst 1, 1) := by decide +kernel
theorem dX7_orders_72 : decode cX7_orders 72 = .ok (.iadd, 1) := by decide +kernel
theorem dX7_orders_73 : decode cX7_orders 73 = .ok (.invokevirtual 355, 3) := by decide +kernel
theorem dX7_orders_76 : decode cX7_orders 76 = .ok (.iinc 5 1, 3) := by decide +kernel
theorem dX7_orders_79 : decode cX7_orders 79 = .ok (.goto (-58), 3) := by decide +kernel
theorem dX7_orders_82 : decode cX7_orders 82 = .ok (.return_, 1) := by decide +kernel
theorem dX7_orders_83 : decode cX7_orders 83 = .ok (.aload_n 0, 1) := by decide +kernel
theorem dX7_orders_84 : decode cX7_orders 84 = .ok (.invokevirtual 307, 3) := by decide +kernel
theorem dX7_orders_87 : decode cX7_orders 87 = .ok (.istore 5, 2) := by decide +kernel
theorem dX7_orders_89 : decode cX7_orders 89 = .ok (.iconst 0, 1) := by decide +kernel
theorem dX7_orders_90 : decode cX7_orders 90 = .ok (.istore 6, 2) := by decide +kernel
theorem dX7_orders_92 : decode cX7_orders 92 = .ok (.iload 6, 2) := by decide +kernel
theorem dX7_orders_94 : decode cX7_orders 94 = .ok (.iload 4, 2) := by decide +kernel
theorem dX7_orders_96 : decode cX7_orders 96 = .ok (.if_icmp .ge 57, 3) := by decide +kernel
theorem dX7_orders_99 : decode cX7_orders 99 = .ok (.iload 5, 2) := by decide +kernel
theorem dX7_orders_101 : decode cX7_orders 101 = .ok (.ifCond .lt 52, 3) := by decide +kernel
theorem dX7_orders_104 : decode cX7_orders 104 = .ok (.aload_n 0, 1) := by decide +kernel
theorem dX7_orders_105 : decode cX7_orders 105 = .ok (.getfield 47, 3) := by decide +kernel
theorem dX7_orders_108 : decode cX7_orders 108 = .ok (.iload 6, 2) := by decide +kernel
theorem dX7_orders_110 : decode cX7_orders 110 = .ok (.iaload, 1) := by decide +kernel
theorem dX7_orders_111 : decode cX7_orders 111 = .ok (.aload_n 0, 1) := by decide +kernel
theorem dX7_orders_112 : decode cX7_orders 112 = .ok (.getfield 7, 3) := by decide +kernel
theorem dX7_orders_115 : decode cX7_orders 115 = .ok (.sipush 484, 3) := by decide +kernel
theorem dX7_orders_118 : decode cX7_orders 118 = .ok (.iload_n 1, 1) := by decide +kernel
theorem dX7_orders_119 : decode cX7_orders 119 = .ok (.iadd, 1) := by decide +kernel
theorem dX7_orders_120 : decode cX7_orders 120 = .ok (.iaload, 1) := by decide +kernel
theorem dX7_orders_121 : decode cX7_orders 121 = .ok (.if_icmp .ne 26, 3) := by decide +kernel
theorem dX7_orders_124 : decode cX7_orders 124 = .ok (.aload_n 0, 1) := by decide +kernel
theorem dX7_orders_125 : decode cX7_orders 125 = .ok (.getfield 358, 3) := by decide +kernel
theorem dX7_orders_128 : decode cX7_orders 128 = .ok (.iconst (-1), 1) := by decide +kernel
theorem dX7_orders_129 : decode cX7_orders 129 = .ok (.if_icmp .eq 12, 3) := by decide +kernel
theorem dX7_orders_132 : decode cX7_orders 132 = .ok (.iload 6, 2) := by decide +kernel
theorem dX7_orders_134 : decode cX7_orders 134 = .ok (.aload_n 0, 1) := by decide +kernel
theorem dX7_orders_135 : decode cX7_orders 135 = .ok (.getfield 358, 3) := by decide +kernel
theorem dX7_orders_138 : decode cX7_orders 138 = .ok (.if_icmp .ge 9, 3) := by decide +kernel
theorem dX7_orders_141 : decode cX7_orders 141 = .ok (.aload_n 0, 1) := by decide +kernel
theorem dX7_orders_142 : decode cX7_orders 142 = .ok (.iload 6, 2) := by decide +kernel
theorem dX7_orders_144 : decode cX7_orders 144 = .ok (.putfield 358, 3) := by decide +kernel
theorem dX7_orders_147 : decode cX7_orders 147 = .ok (.iinc 6 1, 3) := by decide +kernel
theorem dX7_orders_150 : decode cX7_orders 150 = .ok (.goto (-58), 3) := by decide +kernel
theorem dX7_orders_153 : decode cX7_orders 153 = .ok (.return_, 1) := by decide +kernel
theorem dX7_bestByOrder_0 : decode cX7_bestByOrder 0 = .ok (.aload_n 0, 1) := by decide +kernel
theorem dX7_bestByOrder_1 : decode cX7_bestByOrder 1 = .ok (.iload_n 1, 1) := by decide +kernel
theorem dX7_bestByOrder_2 : decode cX7_bestByOrder 2 = .ok (.invokevirtual 286, 3) := by decide +kernel
theorem dX7_bestByOrder_5 : decode cX7_bestByOrder 5 = .ok (.ifCond .eq 5, 3) := by decide +kernel
theorem dX7_bestByOrder_8 : decode cX7_bestByOrder 8 = .ok (.iconst 0, 1) := by decide +kernel
theorem dX7_bestByOrder_9 : decode cX7_bestByOrder 9 = .ok (.ireturn, 1) := by decide +kernel
theorem dX7_bestByOrder_10 : decode cX7_bestByOrder 10 = .ok (.aload_n 0, 1) := by decide +kernel
theorem dX7_bestByOrder_11 : decode cX7_bestByOrder 11 = .ok (.invokevirtual 342, 3) := by decide +kernel
theorem dX7_bestByOrder_14 : decode cX7_bestByOrder 14 = .ok (.iconst 0, 1) := by decide +kernel
theorem dX7_bestByOrder_15 : decode cX7_bestByOrder 15 = .ok (.istore_n 2, 1) := by decide +kernel
theorem dX7_bestByOrder_16 : decode cX7_bestByOrder 16 = .ok (.iload_n 2, 1) := by decide +kernel
theorem dX7_bestByOrder_17 : decode cX7_bestByOrder 17 = .ok (.iconst 4, 1) := by decide +kernel
theorem dX7_bestByOrder_18 : decode cX7_bestByOrder 18 = .ok (.if_icmp .ge 29, 3) := by decide +kernel
theorem dX7_bestByOrder_21 : decode cX7_bestByOrder 21 = .ok (.aload_n 0, 1) := by decide +kernel
theorem dX7_bestByOrder_22 : decode cX7_bestByOrder 22 = .ok (.getfield 47, 3) := by decide +kernel
theorem dX7_bestByOrder_25 : decode cX7_bestByOrder 25 = .ok (.iload_n 2, 1) := by decide +kernel
theorem dX7_bestByOrder_26 : decode cX7_bestByOrder 26 = .ok (.aload_n 0, 1) := by decide +kernel
theorem dX7_bestByOrder_27 : decode cX7_bestByOrder 27 = .ok (.getfield 7, 3) := by decide +kernel
theorem dX7_bestByOrder_30 : decode cX7_bestByOrder 30 = .ok (.sipush 564, 3) := by decide +kernel
theorem dX7_bestByOrder_33 : decode cX7_bestByOrder 33 = .ok (.iconst 4, 1) := by decide +kernel
theorem dX7_bestByOrder_34 : decode cX7_bestByOrder 34 = .ok (.iload_n 1, 1) := by decide +kernel
theorem dX7_bestByOrder_35 : decode cX7_bestByOrder 35 = .ok (.imul, 1) := by decide +kernel
theorem dX7_bestByOrder_36 : decode cX7_bestByOrder 36 = .ok (.iadd, 1) := by decide +kernel
theorem dX7_bestByOrder_37 : decode cX7_bestByOrder 37 = .ok (.iload_n 2, 1) := by decide +kernel
theorem dX7_bestByOrder_38 : decode cX7_bestByOrder 38 = .ok (.iadd, 1) := by decide +kernel
theorem dX7_bestByOrder_39 : decode cX7_bestByOrder 39 = .ok (.iaload, 1) := by decide +kernel
theorem dX7_bestByOrder_40 : decode cX7_bestByOrder 40 = .ok (.iastore, 1) := by decide +kernel
theorem dX7_bestByOrder_41 : decode cX7_bestByOrder 41 = .ok (.iinc 2 1, 3) := by decide +kernel
theorem dX7_bestByOrder_44 : decode cX7_bestByOrder 44 = .ok (.goto (-28), 3) := by decide +kernel
theorem dX7_bestByOrder_47 : decode cX7_bestByOrder 47 = .ok (.aload_n 0, 1) := by decide +kernel
theorem dX7_bestByOrder_48 : decode cX7_bestByOrder 48 = .ok (.iconst (-1), 1) := by decide +kernel
theorem dX7_bestByOrder_49 : decode cX7_bestByOrder 49 = .ok (.putfield 358, 3) := by decide +kernel
theorem dX7_bestByOrder_52 : decode cX7_bestByOrder 52 = .ok (.aload_n 0, 1) := by decide +kernel
theorem dX7_bestByOrder_53 : decode cX7_bestByOrder 53 = .ok (.iload_n 1, 1) := by decide +kernel
theorem dX7_bestByOrder_54 : decode cX7_bestByOrder 54 = .ok (.iconst 0, 1) := by decide +kernel
theorem dX7_bestByOrder_55 : decode cX7_bestByOrder 55 = .ok (.iconst 0, 1) := by decide +kernel
theorem dX7_bestByOrder_56 : decode cX7_bestByOrder 56 = .ok (.invokevirtual 355, 3) := by decide +kernel
theorem dX7_bestByOrder_59 : decode cX7_bestByOrder 59 = .ok (.aload_n 0, 1) := by decide +kernel
theorem dX7_bestByOrder_60 : decode cX7_bestByOrder 60 = .ok (.invokevirtual 345, 3) := by decide +kernel
theorem dX7_bestByOrder_63 : decode cX7_bestByOrder 63 = .ok (.aload_n 0, 1) := by decide +kernel
theorem dX7_bestByOrder_64 : decode cX7_bestByOrder 64 = .ok (.getfield 358, 3) := by decide +kernel
theorem dX7_bestByOrder_67 : decode cX7_bestByOrder 67 = .ok (.ireturn, 1) := by decide +kernel
theorem dX7_write_0 : decode cX7_write 0 = .ok (.aload_n 0, 1) := by decide +kernel
theorem dX7_write_1 : decode cX7_write 1 = .ok (.getfield 50, 3) := by decide +kernel
theorem dX7_write_4 : decode cX7_write 4 = .ok (.aload_n 0, 1) := by decide +kernel
theorem dX7_write_5 : decode cX7_write 5 = .ok (.getfield 361, 3) := by decide +kernel
theorem dX7_write_8 : decode cX7_write 8 = .ok (.iload_n 1, 1) := by decide +kernel
theorem dX7_write_9 : decode cX7_write 9 = .ok (.iastore, 1) := by decide +kernel
theorem dX7_write_10 : decode cX7_write 10 = .ok (.aload_n 0, 1) := by decide +kernel
theorem dX7_write_11 : decode cX7_write 11 = .ok (.dup, 1) := by decide +kernel
theorem dX7_write_12 : decode cX7_write 12 = .ok (.getfield 361, 3) := by decide +kernel
theorem dX7_write_15 : decode cX7_write 15 = .ok (.iconst 1, 1) := by decide +kernel
theorem dX7_write_16 : decode cX7_write 16 = .ok (.iadd, 1) := by decide +kernel
theorem dX7_write_17 : decode cX7_write 17 = .ok (.putfield 361, 3) := by decide +kernel
theorem dX7_write_20 : decode cX7_write 20 = .ok (.return_, 1) := by decide +kernel
theorem dX7_writeChild_0 : decode cX7_writeChild 0 = .ok (.aload_n 0, 1) := by decide +kernel
theorem dX7_writeChild_1 : decode cX7_writeChild 1 = .ok (.bipush 32, 2) := by decide +kernel
theorem dX7_writeChild_3 : decode cX7_writeChild 3 = .ok (.invokevirtual 364, 3) := by decide +kernel
theorem dX7_writeChild_6 : decode cX7_writeChild 6 = .ok (.iload_n 1, 1) := by decide +kernel
theorem dX7_writeChild_7 : decode cX7_writeChild 7 = .ok (.bipush 9, 2) := by decide +kernel
theorem dX7_writeChild_9 : decode cX7_writeChild 9 = .ok (.if_icmp .le 14, 3) := by decide +kernel
theorem dX7_writeChild_12 : decode cX7_writeChild 12 = .ok (.aload_n 0, 1) := by decide +kernel
theorem dX7_writeChild_13 : decode cX7_writeChild 13 = .ok (.bipush 48, 2) := by decide +kernel
theorem dX7_writeChild_15 : decode cX7_writeChild 15 = .ok (.iload_n 1, 1) := by decide +kernel
theorem dX7_writeChild_16 : decode cX7_writeChild 16 = .ok (.bipush 10, 2) := by decide +kernel
theorem dX7_writeChild_18 : decode cX7_writeChild 18 = .ok (.idiv, 1) := by decide +kernel
theorem dX7_writeChild_19 : decode cX7_writeChild 19 = .ok (.iadd, 1) := by decide +kernel
theorem dX7_writeChild_20 : decode cX7_writeChild 20 = .ok (.invokevirtual 364, 3) := by decide +kernel
theorem dX7_writeChild_23 : decode cX7_writeChild 23 = .ok (.aload_n 0, 1) := by decide +kernel
theorem dX7_writeChild_24 : decode cX7_writeChild 24 = .ok (.bipush 48, 2) := by decide +kernel
theorem dX7_writeChild_26 : decode cX7_writeChild 26 = .ok (.iload_n 1, 1) := by decide +kernel
theorem dX7_writeChild_27 : decode cX7_writeChild 27 = .ok (.bipush 10, 2) := by decide +kernel
theorem dX7_writeChild_29 : decode cX7_writeChild 29 = .ok (.irem, 1) := by decide +kernel
theorem dX7_writeChild_30 : decode cX7_writeChild 30 = .ok (.iadd, 1) := by decide +kernel
theorem dX7_writeChild_31 : decode cX7_writeChild 31 = .ok (.invokevirtual 364, 3) := by decide +kernel
theorem dX7_writeChild_34 : decode cX7_writeChild 34 = .ok (.return_, 1) := by decide +kernel
theorem dX7_printSchool_0 : decode cX7_printSchool 0 = .ok (.aload_n 0, 1) := by decide +kernel
theorem dX7_printSchool_1 : decode cX7_printSchool 1 = .ok (.iload_n 1, 1) := by decide +kernel
theorem dX7_printSchool_2 : decode cX7_printSchool 2 = .ok (.invokevirtual 289, 3) := by decide +kernel
theorem dX7_printSchool_5 : decode cX7_printSchool 5 = .ok (.ifCond .eq 5, 3) := by decide +kernel
theorem dX7_printSchool_8 : decode cX7_printSchool 8 = .ok (.iconst 0, 1) := by decide +kernel
theorem dX7_printSchool_9 : decode cX7_printSchool 9 = .ok (.ireturn, 1) := by decide +kernel
theorem dX7_printSchool_10 : decode cX7_printSchool 10 = .ok (.aload_n 0, 1) := by decide +kernel
theorem dX7_printSchool_11 : decode cX7_printSchool 11 = .ok (.iconst 0, 1) := by decide +kernel
theorem dX7_printSchool_12 : decode cX7_printSchool 12 = .ok (.putfield 361, 3) := by decide +kernel
theorem dX7_printSchool_15 : decode cX7_printSchool 15 = .ok (.iconst 0, 1) := by decide +kernel
theorem dX7_printSchool_16 : decode cX7_printSchool 16 = .ok (.istore_n 2, 1) := by decide +kernel
theorem dX7_printSchool_17 : decode cX7_printSchool 17 = .ok (.iload_n 2, 1) := by decide +kernel
theorem dX7_printSchool_18 : decode cX7_printSchool 18 = .ok (.bipush 6, 2) := by decide +kernel
theorem dX7_printSchool_20 : decode cX7_printSchool 20 = .ok (.if_icmp .ge 38, 3) := by decide +kernel
theorem dX7_printSchool_23 : decode cX7_printSchool 23 = .ok (.aload_n 0, 1) := by decide +kernel
theorem dX7_printSchool_24 : decode cX7_printSchool 24 = .ok (.getfield 25, 3) := by decide +kernel
theorem dX7_printSchool_27 : decode cX7_printSchool 27 = .ok (.bipush 6, 2) := by decide +kernel
theorem dX7_printSchool_29 : decode cX7_printSchool 29 = .ok (.iload_n 1, 1) := by decide +kernel
theorem dX7_printSchool_30 : decode cX7_printSchool 30 = .ok (.imul, 1) := by decide +kernel
theorem dX7_printSchool_31 : decode cX7_printSchool 31 = .ok (.iload_n 2, 1) := by decide +kernel
theorem dX7_printSchool_32 : decode cX7_printSchool 32 = .ok (.iadd, 1) := by decide +kernel
theorem dX7_printSchool_33 : decode cX7_printSchool 33 = .ok (.iaload, 1) := by decide +kernel
theorem dX7_printSchool_34 : decode cX7_printSchool 34 = .ok (.ifCond .eq 18, 3) := by decide +kernel
theorem dX7_printSchool_37 : decode cX7_printSchool 37 = .ok (.aload_n 0, 1) := by decide +kernel
theorem dX7_printSchool_38 : decode cX7_printSchool 38 = .ok (.aload_n 0, 1) := by decide +kernel
theorem dX7_printSchool_39 : decode cX7_printSchool 39 = .ok (.getfield 25, 3) := by decide +kernel
theorem dX7_printSchool_42 : decode cX7_printSchool 42 = .ok (.bipush 6, 2) := by decide +kernel
theorem dX7_printSchool_44 : decode cX7_printSchool 44 = .ok (.iload_n 1, 1) := by decide +kernel
theorem dX7_printSchool_45 : decode cX7_printSchool 45 = .ok (.imul, 1) := by decide +kernel
theorem dX7_printSchool_46 : decode cX7_printSchool 46 = .ok (.iload_n 2, 1) := by decide +kernel
theorem dX7_printSchool_47 : decode cX7_printSchool 47 = .ok (.iadd, 1) := by decide +kernel
theorem dX7_printSchool_48 : decode cX7_printSchool 48 = .ok (.iaload, 1) := by decide +kernel
theorem dX7_printSchool_49 : decode cX7_printSchool 49 = .ok (.invokevirtual 364, 3) := by decide +kernel
theorem dX7_printSchool_52 : decode cX7_printSchool 52 = .ok (.iinc 2 1, 3) := by decide +kernel
theorem dX7_printSchool_55 : decode cX7_printSchool 55 = .ok (.goto (-38), 3) := by decide +kernel
theorem dX7_printSchool_58 : decode cX7_printSchool 58 = .ok (.aload_n 0, 1) := by decide +kernel
theorem dX7_printSchool_59 : decode cX7_printSchool 59 = .ok (.bipush 58, 2) := by decide +kernel
theorem dX7_printSchool_61 : decode cX7_printSchool 61 = .ok (.invokevirtual 364, 3) := by decide +kernel
theorem dX7_printSchool_64 : decode cX7_printSchool 64 = .ok (.iconst 0, 1) := by decide +kernel
theorem dX7_printSchool_65 : decode cX7_printSchool 65 = .ok (.istore_n 2, 1) := by decide +kernel
theorem dX7_printSchool_66 : decode cX7_printSchool 66 = .ok (.iload_n 2, 1) := by decide +kernel
theorem dX7_printSchool_67 : decode cX7_printSchool 67 = .ok (.aload_n 0, 1) := by decide +kernel
theorem dX7_printSchool_68 : decode cX7_printSchool 68 = .ok (.iload_n 1, 1) := by decide +kernel
theorem dX7_printSchool_69 : decode cX7_printSchool 69 = .ok (.invokevirtual 112, 3) := by decide +kernel
theorem dX7_printSchool_72 : decode cX7_printSchool 72 = .ok (.if_icmp .ge 42, 3) := by decide +kernel
theorem dX7_printSchool_75 : decode cX7_printSchool 75 = .ok (.aload_n 0, 1) := by decide +kernel
theorem dX7_printSchool_76 : decode cX7_printSchool 76 = .ok (.iload_n 1, 1) := by decide +kernel
theorem dX7_printSchool_77 : decode cX7_printSchool 77 = .ok (.iload_n 2, 1) := by decide +kernel
theorem dX7_printSchool_78 : decode cX7_printSchool 78 = .ok (.iconst 0, 1) := by decide +kernel
theorem dX7_printSchool_79 : decode cX7_printSchool 79 = .ok (.invokevirtual 122, 3) := by decide +kernel
theorem dX7_printSchool_82 : decode cX7_printSchool 82 = .ok (.istore_n 3, 1) := by decide +kernel
theorem dX7_printSchool_83 : decode cX7_printSchool 83 = .ok (.aload_n 0, 1) := by decide +kernel
theorem dX7_printSchool_84 : decode cX7_printSchool 84 = .ok (.iload_n 3, 1) := by decide +kernel
theorem dX7_printSchool_85 : decode cX7_printSchool 85 = .ok (.invokevirtual 367, 3) := by decide +kernel
theorem dX7_printSchool_88 : decode cX7_printSchool 88 = .ok (.aload_n 0, 1) := by decide +kernel
theorem dX7_printSchool_89 : decode cX7_printSchool 89 = .ok (.getfield 7, 3) := by decide +kernel
theorem dX7_printSchool_92 : decode cX7_printSchool 92 = .ok (.sipush 444, 3) := by decide +kernel
theorem dX7_printSchool_95 : decode cX7_printSchool 95 = .ok (.iload_n 3, 1) := by decide +kernel
theorem dX7_printSchool_96 : decode cX7_printSchool 96 = .ok (.iadd, 1) := by decide +kernel
theorem dX7_printSchool_97 : decode cX7_printSchool 97 = .ok (.iaload, 1) := by decide +kernel
theorem dX7_printSchool_98 : decode cX7_printSchool 98 = .ok (.iconst 1, 1) := by decide +kernel
theorem dX7_printSchool_99 : decode cX7_printSchool 99 = .ok (.if_icmp .ne 9, 3) := by decide +kernel
theorem dX7_printSchool_102 : decode cX7_printSchool 102 = .ok (.aload_n 0, 1) := by decide +kernel
theorem dX7_printSchool_103 : decode cX7_printSchool 103 = .ok (.bipush 42, 2) := by decide +kernel
theorem dX7_printSchool_105 : decode cX7_printSchool 105 = .ok (.invokevirtual 364, 3) := by decide +kernel
theorem dX7_printSchool_108 : decode cX7_printSchool 108 = .ok (.iinc 2 1, 3) := by decide +kernel
theorem dX7_printSchool_111 : decode cX7_printSchool 111 = .ok (.goto (-45), 3) := by decide +kernel
theorem dX7_printSchool_114 : decode cX7_printSchool 114 = .ok (.aload_n 0, 1) := by decide +kernel
theorem dX7_printSchool_115 : decode cX7_printSchool 115 = .ok (.bipush 47, 2) := by decide +kernel
theorem dX7_printSchool_117 : decode cX7_printSchool 117 = .ok (.invokevirtual 364, 3) := by decide +kernel
theorem dX7_printSchool_120 : decode cX7_printSchool 120 = .ok (.iconst 0, 1) := by decide +kernel
theorem dX7_printSchool_121 : decode cX7_printSchool 121 = .ok (.istore_n 2, 1) := by decide +kernel
theorem dX7_printSchool_122 : decode cX7_printSchool 122 = .ok (.iload_n 2, 1) := by decide +kernel
theorem dX7_printSchool_123 : decode cX7_printSchool 123 = .ok (.aload_n 0, 1) := by decide +kernel
theorem dX7_printSchool_124 : decode cX7_printSchool 124 = .ok (.iload_n 1, 1) := by decide +kernel
theorem dX7_printSchool_125 : decode cX7_printSchool 125 = .ok (.invokevirtual 115, 3) := by decide +kernel
theorem dX7_printSchool_128 : decode cX7_printSchool 128 = .ok (.if_icmp .ge 20, 3) := by decide +kernel
theorem dX7_printSchool_131 : decode cX7_printSchool 131 = .ok (.aload_n 0, 1) := by decide +kernel
theorem dX7_printSchool_132 : decode cX7_printSchool 132 = .ok (.aload_n 0, 1) := by decide +kernel
theorem dX7_printSchool_133 : decode cX7_printSchool 133 = .ok (.iload_n 1, 1) := by decide +kernel
theorem dX7_printSchool_134 : decode cX7_printSchool 134 = .ok (.iload_n 2, 1) := by decide +kernel
theorem dX7_printSchool_135 : decode cX7_printSchool 135 = .ok (.iconst 1, 1) := by decide +kernel
theorem dX7_printSchool_136 : decode cX7_printSchool 136 = .ok (.invokevirtual 122, 3) := by decide +kernel
theorem dX7_printSchool_139 : decode cX7_printSchool 139 = .ok (.invokevirtual 367, 3) := by decide +kernel
theorem dX7_printSchool_142 : decode cX7_printSchool 142 = .ok (.iinc 2 1, 3) := by decide +kernel
theorem dX7_printSchool_145 : decode cX7_printSchool 145 = .ok (.goto (-23), 3) := by decide +kernel
theorem dX7_printSchool_148 : decode cX7_printSchool 148 = .ok (.aload_n 0, 1) := by decide +kernel
theorem dX7_printSchool_149 : decode cX7_printSchool 149 = .ok (.getfield 361, 3) := by decide +kernel
theorem dX7_printSchool_152 : decode cX7_printSchool 152 = .ok (.ireturn, 1) := by decide +kernel
theorem dX7_outputByte_0 : decode cX7_outputByte 0 = .ok (.aload_n 0, 1) := by decide +kernel
theorem dX7_outputByte_1 : decode cX7_outputByte 1 = .ok (.iconst 0, 1) := by decide +kernel
theorem dX7_outputByte_2 : decode cX7_outputByte 2 = .ok (.putfield 56, 3) := by decide +kernel
theorem dX7_outputByte_5 : decode cX7_outputByte 5 = .ok (.iload_n 1, 1) := by decide +kernel
theorem dX7_outputByte_6 : decode cX7_outputByte 6 = .ok (.iconst 0, 1) := by decide +kernel
theorem dX7_outputByte_7 : decode cX7_outputByte 7 = .ok (.aload_n 0, 1) := by decide +kernel
theorem dX7_outputByte_8 : decode cX7_outputByte 8 = .ok (.getfield 361, 3) := by decide +kernel
theorem dX7_outputByte_11 : decode cX7_outputByte 11 = .ok (.iconst 1, 1) := by decide +kernel
theorem dX7_outputByte_12 : decode cX7_outputByte 12 = .ok (.isub, 1) := by decide +kernel
theorem dX7_outputByte_13 : decode cX7_outputByte 13 = .ok (.invokestatic 66, 3) := by decide +kernel
theorem dX7_outputByte_16 : decode cX7_outputByte 16 = .ok (.ifCond .eq 12, 3) := by decide +kernel
theorem dX7_outputByte_19 : decode cX7_outputByte 19 = .ok (.aload_n 0, 1) := by decide +kernel
theorem dX7_outputByte_20 : decode cX7_outputByte 20 = .ok (.getfield 50, 3) := by decide +kernel
theorem dX7_outputByte_23 : decode cX7_outputByte 23 = .ok (.iload_n 1, 1) := by decide +kernel
theorem dX7_outputByte_24 : decode cX7_outputByte 24 = .ok (.iaload, 1) := by decide +kernel
theorem dX7_outputByte_25 : decode cX7_outputByte 25 = .ok (.goto 4, 3) := by decide +kernel
theorem dX7_outputByte_28 : decode cX7_outputByte 28 = .ok (.iconst (-1), 1) := by decide +kernel
theorem dX7_outputByte_29 : decode cX7_outputByte 29 = .ok (.ireturn, 1) := by decide +kernel
theorem dX7_undo_0 : decode cX7_undo 0 = .ok (.aload_n 0, 1) := by decide +kernel
theorem dX7_undo_1 : decode cX7_undo 1 = .ok (.iconst 0, 1) := by decide +kernel
theorem dX7_undo_2 : decode cX7_undo 2 = .ok (.putfield 56, 3) := by decide +kernel
theorem dX7_undo_5 : decode cX7_undo 5 = .ok (.aload_n 0, 1) := by decide +kernel
theorem dX7_undo_6 : decode cX7_undo 6 = .ok (.getfield 59, 3) := by decide +kernel
theorem dX7_undo_9 : decode cX7_undo 9 = .ok (.ifCond .ne 5, 3) := by decide +kernel
theorem dX7_undo_12 : decode cX7_undo 12 = .ok (.iconst (-1), 1) := by decide +kernel
theorem dX7_undo_13 : decode cX7_undo 13 = .ok (.ireturn, 1) := by decide +kernel
theorem dX7_undo_14 : decode cX7_undo 14 = .ok (.aload_n 0, 1) := by decide +kernel
theorem dX7_undo_15 : decode cX7_undo 15 = .ok (.dup, 1) := by decide +kernel
theorem dX7_undo_16 : decode cX7_undo 16 = .ok (.getfield 59, 3) := by decide +kernel
theorem dX7_undo_19 : decode cX7_undo 19 = .ok (.iconst 1, 1) := by decide +kernel
theorem dX7_undo_20 : decode cX7_undo 20 = .ok (.isub, 1) := by decide +kernel
theorem dX7_undo_21 : decode cX7_undo 21 = .ok (.putfield 59, 3) := by decide +kernel
theorem dX7_undo_24 : decode cX7_undo 24 = .ok (.aload_n 0, 1) := by decide +kernel
theorem dX7_undo_25 : decode cX7_undo 25 = .ok (.getfield 22, 3) := by decide +kernel
theorem dX7_undo_28 : decode cX7_undo 28 = .ok (.sipush 764, 3) := by decide +kernel
theorem dX7_undo_31 : decode cX7_undo 31 = .ok (.aload_n 0, 1) := by decide +kernel
theorem dX7_undo_32 : decode cX7_undo 32 = .ok (.getfield 59, 3) := by decide +kernel
theorem dX7_undo_35 : decode cX7_undo 35 = .ok (.imul, 1) := by decide +kernel
theorem dX7_undo_36 : decode cX7_undo 36 = .ok (.aload_n 0, 1) := by decide +kernel
theorem dX7_undo_37 : decode cX7_undo 37 = .ok (.getfield 7, 3) := by decide +kernel
theorem dX7_undo_40 : decode cX7_undo 40 = .ok (.iconst 0, 1) := by decide +kernel
theorem dX7_undo_41 : decode cX7_undo 41 = .ok (.sipush 764, 3) := by decide +kernel
theorem dX7_undo_44 : decode cX7_undo 44 = .ok (.invokestatic 62, 3) := by decide +kernel
theorem dX7_undo_47 : decode cX7_undo 47 = .ok (.aload_n 0, 1) := by decide +kernel
theorem dX7_undo_48 : decode cX7_undo 48 = .ok (.getfield 59, 3) := by decide +kernel
theorem dX7_undo_51 : decode cX7_undo 51 = .ok (.ireturn, 1) := by decide +kernel
theorem dX7_saveState_0 : decode cX7_saveState 0 = .ok (.aload_n 0, 1) := by decide +kernel
theorem dX7_saveState_1 : decode cX7_saveState 1 = .ok (.iconst 0, 1) := by decide +kernel
theorem dX7_saveState_2 : decode cX7_saveState 2 = .ok (.putfield 56, 3) := by decide +kernel
theorem dX7_saveState_5 : decode cX7_saveState 5 = .ok (.aload_n 0, 1) := by decide +kernel
theorem dX7_saveState_6 : decode cX7_saveState 6 = .ok (.getfield 7, 3) := by decide +kernel
theorem dX7_saveState_9 : decode cX7_saveState 9 = .ok (.iconst 0, 1) := by decide +kernel
theorem dX7_saveState_10 : decode cX7_saveState 10 = .ok (.aload_n 0, 1) := by decide +kernel
theorem dX7_saveState_11 : decode cX7_saveState 11 = .ok (.getfield 19, 3) := by decide +kernel
theorem dX7_saveState_14 : decode cX7_saveState 14 = .ok (.iconst 0, 1) := by decide +kernel
theorem dX7_saveState_15 : decode cX7_saveState 15 = .ok (.sipush 764, 3) := by decide +kernel
theorem dX7_saveState_18 : decode cX7_saveState 18 = .ok (.invokestatic 62, 3) := by decide +kernel
theorem dX7_saveState_21 : decode cX7_saveState 21 = .ok (.aload_n 0, 1) := by decide +kernel
theorem dX7_saveState_22 : decode cX7_saveState 22 = .ok (.iconst 1, 1) := by decide +kernel
theorem dX7_saveState_23 : decode cX7_saveState 23 = .ok (.putfield 275, 3) := by decide +kernel
theorem dX7_saveState_26 : decode cX7_saveState 26 = .ok (.aload_n 0, 1) := by decide +kernel
theorem dX7_saveState_27 : decode cX7_saveState 27 = .ok (.getfield 7, 3) := by decide +kernel
theorem dX7_saveState_30 : decode cX7_saveState 30 = .ok (.iconst 1, 1) := by decide +kernel
theorem dX7_saveState_31 : decode cX7_saveState 31 = .ok (.iaload, 1) := by decide +kernel
theorem dX7_saveState_32 : decode cX7_saveState 32 = .ok (.ireturn, 1) := by decide +kernel
theorem dX7_restoreState_0 : decode cX7_restoreState 0 = .ok (.aload_n 0, 1) := by decide +kernel
theorem dX7_restoreState_1 : decode cX7_restoreState 1 = .ok (.iconst 0, 1) := by decide +kernel
theorem dX7_restoreState_2 : decode cX7_restoreState 2 = .ok (.putfield 56, 3) := by decide +kernel
theorem dX7_restoreState_5 : decode cX7_restoreState 5 = .ok (.aload_n 0, 1) := by decide +kernel
theorem dX7_restoreState_6 : decode cX7_restoreState 6 = .ok (.aload_n 0, 1) := by decide +kernel
theorem dX7_restoreState_7 : decode cX7_restoreState 7 = .ok (.getfield 275, 3) := by decide +kernel
theorem dX7_restoreState_10 : decode cX7_restoreState 10 = .ok (.ifCond .ne 7, 3) := by decide +kernel
theorem dX7_restoreState_13 : decode cX7_restoreState 13 = .ok (.iconst 1, 1) := by decide +kernel
theorem dX7_restoreState_14 : decode cX7_restoreState 14 = .ok (.goto 4, 3) := by decide +kernel
theorem dX7_restoreState_17 : decode cX7_restoreState 17 = .ok (.iconst 0, 1) := by decide +kernel
theorem dX7_restoreState_18 : decode cX7_restoreState 18 = .ok (.iconst 1, 1) := by decide +kernel
theorem dX7_restoreState_19 : decode cX7_restoreState 19 = .ok (.invokevirtual 279, 3) := by decide +kernel
theorem dX7_restoreState_22 : decode cX7_restoreState 22 = .ok (.ifCond .eq 5, 3) := by decide +kernel
theorem dX7_restoreState_25 : decode cX7_restoreState 25 = .ok (.iconst 0, 1) := by decide +kernel
theorem dX7_restoreState_26 : decode cX7_restoreState 26 = .ok (.ireturn, 1) := by decide +kernel
theorem dX7_restoreState_27 : decode cX7_restoreState 27 = .ok (.aload_n 0, 1) := by decide +kernel
theorem dX7_restoreState_28 : decode cX7_restoreState 28 = .ok (.getfield 19, 3) := by decide +kernel
theorem dX7_restoreState_31 : decode cX7_restoreState 31 = .ok (.iconst 0, 1) := by decide +kernel
theorem dX7_restoreState_32 : decode cX7_restoreState 32 = .ok (.aload_n 0, 1) := by decide +kernel
theorem dX7_restoreState_33 : decode cX7_restoreState 33 = .ok (.getfield 7, 3) := by decide +kernel
theorem dX7_restoreState_36 : decode cX7_restoreState 36 = .ok (.iconst 0, 1) := by decide +kernel
theorem dX7_restoreState_37 : decode cX7_restoreState 37 = .ok (.sipush 764, 3) := by decide +kernel
theorem dX7_restoreState_40 : decode cX7_restoreState 40 = .ok (.invokestatic 62, 3) := by decide +kernel
theorem dX7_restoreState_43 : decode cX7_restoreState 43 = .ok (.aload_n 0, 1) := by decide +kernel
theorem dX7_restoreState_44 : decode cX7_restoreState 44 = .ok (.iconst 0, 1) := by decide +kernel
theorem dX7_restoreState_45 : decode cX7_restoreState 45 = .ok (.putfield 59, 3) := by decide +kernel
theorem dX7_restoreState_48 : decode cX7_restoreState 48 = .ok (.aload_n 0, 1) := by decide +kernel
theorem dX7_restoreState_49 : decode cX7_restoreState 49 = .ok (.getfield 7, 3) := by decide +kernel
theorem dX7_restoreState_52 : decode cX7_restoreState 52 = .ok (.iconst 1, 1) := by decide +kernel
theorem dX7_restoreState_53 : decode cX7_restoreState 53 = .ok (.iaload, 1) := by decide +kernel
theorem dX7_restoreState_54 : decode cX7_restoreState 54 = .ok (.ireturn, 1) := by decide +kernel
