theorem dX0_init_0 : decode cX0_init 0 = .ok (.aload_n 0, 1) := by decide +kernel
theorem dX0_init_1 : decode cX0_init 1 = .ok (.invokespecial 3, 3) := by decide +kernel
theorem dX0_init_4 : decode cX0_init 4 = .ok (.aload_n 0, 1) := by decide +kernel
theorem dX0_init_5 : decode cX0_init 5 = .ok (.bipush 40, 2) := by decide +kernel
theorem dX0_init_7 : decode cX0_init 7 = .ok (.newarray .int, 2) := by decide +kernel
theorem dX0_init_9 : decode cX0_init 9 = .ok (.putfield 9, 3) := by decide +kernel
theorem dX0_init_12 : decode cX0_init 12 = .ok (.return_, 1) := by decide +kernel
theorem dX0_run_0 : decode cX0_run 0 = .ok (.aload_n 1, 1) := by decide +kernel
theorem dX0_run_1 : decode cX0_run 1 = .ok (.invokevirtual 15, 3) := by decide +kernel
theorem dX0_run_4 : decode cX0_run 4 = .ok (.aload_n 0, 1) := by decide +kernel
theorem dX0_run_5 : decode cX0_run 5 = .ok (.getfield 9, 3) := by decide +kernel
theorem dX0_run_8 : decode cX0_run 8 = .ok (.iconst 0, 1) := by decide +kernel
theorem dX0_run_9 : decode cX0_run 9 = .ok (.invokestatic 20, 3) := by decide +kernel
theorem dX0_run_12 : decode cX0_run 12 = .ok (.iconst 1, 1) := by decide +kernel
theorem dX0_run_13 : decode cX0_run 13 = .ok (.istore_n 2, 1) := by decide +kernel
theorem dX0_run_14 : decode cX0_run 14 = .ok (.iload_n 2, 1) := by decide +kernel
theorem dX0_run_15 : decode cX0_run 15 = .ok (.sipush 160, 3) := by decide +kernel
theorem dX0_run_18 : decode cX0_run 18 = .ok (.if_icmp .gt 49, 3) := by decide +kernel
theorem dX0_run_21 : decode cX0_run 21 = .ok (.aload_n 0, 1) := by decide +kernel
theorem dX0_run_22 : decode cX0_run 22 = .ok (.aload_n 1, 1) := by decide +kernel
theorem dX0_run_23 : decode cX0_run 23 = .ok (.iload_n 2, 1) := by decide +kernel
theorem dX0_run_24 : decode cX0_run 24 = .ok (.invokevirtual 26, 3) := by decide +kernel
theorem dX0_run_27 : decode cX0_run 27 = .ok (.ifCond .ne 4, 3) := by decide +kernel
theorem dX0_run_30 : decode cX0_run 30 = .ok (.return_, 1) := by decide +kernel
theorem dX0_run_31 : decode cX0_run 31 = .ok (.aload_n 1, 1) := by decide +kernel
theorem dX0_run_32 : decode cX0_run 32 = .ok (.iload_n 2, 1) := by decide +kernel
theorem dX0_run_33 : decode cX0_run 33 = .ok (.putfield 30, 3) := by decide +kernel
theorem dX0_run_36 : decode cX0_run 36 = .ok (.iconst 0, 1) := by decide +kernel
theorem dX0_run_37 : decode cX0_run 37 = .ok (.istore_n 3, 1) := by decide +kernel
theorem dX0_run_38 : decode cX0_run 38 = .ok (.iload_n 3, 1) := by decide +kernel
theorem dX0_run_39 : decode cX0_run 39 = .ok (.aload_n 1, 1) := by decide +kernel
theorem dX0_run_40 : decode cX0_run 40 = .ok (.getfield 34, 3) := by decide +kernel
theorem dX0_run_43 : decode cX0_run 43 = .ok (.getfield 38, 3) := by decide +kernel
theorem dX0_run_46 : decode cX0_run 46 = .ok (.if_icmp .ge 15, 3) := by decide +kernel
theorem dX0_run_49 : decode cX0_run 49 = .ok (.aload_n 0, 1) := by decide +kernel
theorem dX0_run_50 : decode cX0_run 50 = .ok (.aload_n 1, 1) := by decide +kernel
theorem dX0_run_51 : decode cX0_run 51 = .ok (.iload_n 3, 1) := by decide +kernel
theorem dX0_run_52 : decode cX0_run 52 = .ok (.invokevirtual 43, 3) := by decide +kernel
theorem dX0_run_55 : decode cX0_run 55 = .ok (.iinc 3 1, 3) := by decide +kernel
theorem dX0_run_58 : decode cX0_run 58 = .ok (.goto (-20), 3) := by decide +kernel
theorem dX0_run_61 : decode cX0_run 61 = .ok (.iinc 2 1, 3) := by decide +kernel
theorem dX0_run_64 : decode cX0_run 64 = .ok (.goto (-50), 3) := by decide +kernel
theorem dX0_run_67 : decode cX0_run 67 = .ok (.return_, 1) := by decide +kernel
theorem dX0_tryNext_0 : decode cX0_tryNext 0 = .ok (.iconst 0, 1) := by decide +kernel
theorem dX0_tryNext_1 : decode cX0_tryNext 1 = .ok (.istore_n 3, 1) := by decide +kernel
theorem dX0_tryNext_2 : decode cX0_tryNext 2 = .ok (.iconst 0, 1) := by decide +kernel
theorem dX0_tryNext_3 : decode cX0_tryNext 3 = .ok (.istore 4, 2) := by decide +kernel
theorem dX0_tryNext_5 : decode cX0_tryNext 5 = .ok (.iload 4, 2) := by decide +kernel
theorem dX0_tryNext_7 : decode cX0_tryNext 7 = .ok (.aload_n 1, 1) := by decide +kernel
theorem dX0_tryNext_8 : decode cX0_tryNext 8 = .ok (.getfield 47, 3) := by decide +kernel
theorem dX0_tryNext_11 : decode cX0_tryNext 11 = .ok (.if_icmp .ge 87, 3) := by decide +kernel
theorem dX0_tryNext_14 : decode cX0_tryNext 14 = .ok (.aload_n 1, 1) := by decide +kernel
theorem dX0_tryNext_15 : decode cX0_tryNext 15 = .ok (.getfield 50, 3) := by decide +kernel
theorem dX0_tryNext_18 : decode cX0_tryNext 18 = .ok (.iload 4, 2) := by decide +kernel
theorem dX0_tryNext_20 : decode cX0_tryNext 20 = .ok (.iaload, 1) := by decide +kernel
theorem dX0_tryNext_21 : decode cX0_tryNext 21 = .ok (.iconst (-1), 1) := by decide +kernel
theorem dX0_tryNext_22 : decode cX0_tryNext 22 = .ok (.if_icmp .ne 70, 3) := by decide +kernel
theorem dX0_tryNext_25 : decode cX0_tryNext 25 = .ok (.aload_n 1, 1) := by decide +kernel
theorem dX0_tryNext_26 : decode cX0_tryNext 26 = .ok (.getfield 53, 3) := by decide +kernel
theorem dX0_tryNext_29 : decode cX0_tryNext 29 = .ok (.iload 4, 2) := by decide +kernel
theorem dX0_tryNext_31 : decode cX0_tryNext 31 = .ok (.invokestatic 57, 3) := by decide +kernel
theorem dX0_tryNext_34 : decode cX0_tryNext 34 = .ok (.ifCond .ne 58, 3) := by decide +kernel
theorem dX0_tryNext_37 : decode cX0_tryNext 37 = .ok (.aload_n 1, 1) := by decide +kernel
theorem dX0_tryNext_38 : decode cX0_tryNext 38 = .ok (.getfield 61, 3) := by decide +kernel
theorem dX0_tryNext_41 : decode cX0_tryNext 41 = .ok (.iload 4, 2) := by decide +kernel
theorem dX0_tryNext_43 : decode cX0_tryNext 43 = .ok (.iaload, 1) := by decide +kernel
theorem dX0_tryNext_44 : decode cX0_tryNext 44 = .ok (.aload_n 0, 1) := by decide +kernel
theorem dX0_tryNext_45 : decode cX0_tryNext 45 = .ok (.getfield 9, 3) := by decide +kernel
theorem dX0_tryNext_48 : decode cX0_tryNext 48 = .ok (.iload 4, 2) := by decide +kernel
theorem dX0_tryNext_50 : decode cX0_tryNext 50 = .ok (.iaload, 1) := by decide +kernel
theorem dX0_tryNext_51 : decode cX0_tryNext 51 = .ok (.invokestatic 64, 3) := by decide +kernel
theorem dX0_tryNext_54 : decode cX0_tryNext 54 = .ok (.istore 5, 2) := by decide +kernel
theorem dX0_tryNext_56 : decode cX0_tryNext 56 = .ok (.iload 5, 2) := by decide +kernel
theorem dX0_tryNext_58 : decode cX0_tryNext 58 = .ok (.iconst (-1), 1) := by decide +kernel
theorem dX0_tryNext_59 : decode cX0_tryNext 59 = .ok (.if_icmp .eq 33, 3) := by decide +kernel
theorem dX0_tryNext_62 : decode cX0_tryNext 62 = .ok (.aload_n 0, 1) := by decide +kernel
theorem dX0_tryNext_63 : decode cX0_tryNext 63 = .ok (.getfield 9, 3) := by decide +kernel
theorem dX0_tryNext_66 : decode cX0_tryNext 66 = .ok (.iload 4, 2) := by decide +kernel
theorem dX0_tryNext_68 : decode cX0_tryNext 68 = .ok (.dup2, 1) := by decide +kernel
theorem dX0_tryNext_69 : decode cX0_tryNext 69 = .ok (.iaload, 1) := by decide +kernel
theorem dX0_tryNext_70 : decode cX0_tryNext 70 = .ok (.iconst 1, 1) := by decide +kernel
theorem dX0_tryNext_71 : decode cX0_tryNext 71 = .ok (.iadd, 1) := by decide +kernel
theorem dX0_tryNext_72 : decode cX0_tryNext 72 = .ok (.iastore, 1) := by decide +kernel
theorem dX0_tryNext_73 : decode cX0_tryNext 73 = .ok (.aload_n 1, 1) := by decide +kernel
theorem dX0_tryNext_74 : decode cX0_tryNext 74 = .ok (.getfield 50, 3) := by decide +kernel
theorem dX0_tryNext_77 : decode cX0_tryNext 77 = .ok (.iload 4, 2) := by decide +kernel
theorem dX0_tryNext_79 : decode cX0_tryNext 79 = .ok (.iload 5, 2) := by decide +kernel
theorem dX0_tryNext_81 : decode cX0_tryNext 81 = .ok (.iastore, 1) := by decide +kernel
theorem dX0_tryNext_82 : decode cX0_tryNext 82 = .ok (.aload_n 1, 1) := by decide +kernel
theorem dX0_tryNext_83 : decode cX0_tryNext 83 = .ok (.getfield 68, 3) := by decide +kernel
theorem dX0_tryNext_86 : decode cX0_tryNext 86 = .ok (.iload 4, 2) := by decide +kernel
theorem dX0_tryNext_88 : decode cX0_tryNext 88 = .ok (.iload_n 2, 1) := by decide +kernel
theorem dX0_tryNext_89 : decode cX0_tryNext 89 = .ok (.iastore, 1) := by decide +kernel
theorem dX0_tryNext_90 : decode cX0_tryNext 90 = .ok (.iconst 1, 1) := by decide +kernel
theorem dX0_tryNext_91 : decode cX0_tryNext 91 = .ok (.istore_n 3, 1) := by decide +kernel
theorem dX0_tryNext_92 : decode cX0_tryNext 92 = .ok (.iinc 4 1, 3) := by decide +kernel
theorem dX0_tryNext_95 : decode cX0_tryNext 95 = .ok (.goto (-90), 3) := by decide +kernel
theorem dX0_tryNext_98 : decode cX0_tryNext 98 = .ok (.iload_n 3, 1) := by decide +kernel
theorem dX0_tryNext_99 : decode cX0_tryNext 99 = .ok (.ireturn, 1) := by decide +kernel
theorem dX0_keepFirst_0 : decode cX0_keepFirst 0 = .ok (.aload_n 1, 1) := by decide +kernel
theorem dX0_keepFirst_1 : decode cX0_keepFirst 1 = .ok (.iload_n 2, 1) := by decide +kernel
theorem dX0_keepFirst_2 : decode cX0_keepFirst 2 = .ok (.invokevirtual 71, 3) := by decide +kernel
theorem dX0_keepFirst_5 : decode cX0_keepFirst 5 = .ok (.lstore_n 3, 1) := by decide +kernel
theorem dX0_keepFirst_6 : decode cX0_keepFirst 6 = .ok (.lload_n 3, 1) := by decide +kernel
theorem dX0_keepFirst_7 : decode cX0_keepFirst 7 = .ok (.invokestatic 75, 3) := by decide +kernel
theorem dX0_keepFirst_10 : decode cX0_keepFirst 10 = .ok (.aload_n 1, 1) := by decide +kernel
theorem dX0_keepFirst_11 : decode cX0_keepFirst 11 = .ok (.getfield 81, 3) := by decide +kernel
theorem dX0_keepFirst_14 : decode cX0_keepFirst 14 = .ok (.iload_n 2, 1) := by decide +kernel
theorem dX0_keepFirst_15 : decode cX0_keepFirst 15 = .ok (.iaload, 1) := by decide +kernel
theorem dX0_keepFirst_16 : decode cX0_keepFirst 16 = .ok (.isub, 1) := by decide +kernel
theorem dX0_keepFirst_17 : decode cX0_keepFirst 17 = .ok (.istore 5, 2) := by decide +kernel
theorem dX0_keepFirst_19 : decode cX0_keepFirst 19 = .ok (.iload 5, 2) := by decide +kernel
theorem dX0_keepFirst_21 : decode cX0_keepFirst 21 = .ok (.ifCond .le 51, 3) := by decide +kernel
theorem dX0_keepFirst_24 : decode cX0_keepFirst 24 = .ok (.aload_n 1, 1) := by decide +kernel
theorem dX0_keepFirst_25 : decode cX0_keepFirst 25 = .ok (.lload_n 3, 1) := by decide +kernel
theorem dX0_keepFirst_26 : decode cX0_keepFirst 26 = .ok (.iload_n 2, 1) := by decide +kernel
theorem dX0_keepFirst_27 : decode cX0_keepFirst 27 = .ok (.invokevirtual 84, 3) := by decide +kernel
theorem dX0_keepFirst_30 : decode cX0_keepFirst 30 = .ok (.istore 6, 2) := by decide +kernel
theorem dX0_keepFirst_32 : decode cX0_keepFirst 32 = .ok (.iload 6, 2) := by decide +kernel
theorem dX0_keepFirst_34 : decode cX0_keepFirst 34 = .ok (.iconst (-1), 1) := by decide +kernel
theorem dX0_keepFirst_35 : decode cX0_keepFirst 35 = .ok (.if_icmp .ne 4, 3) := by decide +kernel
theorem dX0_keepFirst_38 : decode cX0_keepFirst 38 = .ok (.return_, 1) := by decide +kernel
theorem dX0_keepFirst_39 : decode cX0_keepFirst 39 = .ok (.lload_n 3, 1) := by decide +kernel
theorem dX0_keepFirst_40 : decode cX0_keepFirst 40 = .ok (.lconst 1, 1) := by decide +kernel
theorem dX0_keepFirst_41 : decode cX0_keepFirst 41 = .ok (.iload 6, 2) := by decide +kernel
theorem dX0_keepFirst_43 : decode cX0_keepFirst 43 = .ok (.lshl, 1) := by decide +kernel
theorem dX0_keepFirst_44 : decode cX0_keepFirst 44 = .ok (.ldc2_w 88, 3) := by decide +kernel
theorem dX0_keepFirst_47 : decode cX0_keepFirst 47 = .ok (.lxor, 1) := by decide +kernel
theorem dX0_keepFirst_48 : decode cX0_keepFirst 48 = .ok (.land, 1) := by decide +kernel
theorem dX0_keepFirst_49 : decode cX0_keepFirst 49 = .ok (.lstore_n 3, 1) := by decide +kernel
theorem dX0_keepFirst_50 : decode cX0_keepFirst 50 = .ok (.aload_n 1, 1) := by decide +kernel
theorem dX0_keepFirst_51 : decode cX0_keepFirst 51 = .ok (.getfield 50, 3) := by decide +kernel
theorem dX0_keepFirst_54 : decode cX0_keepFirst 54 = .ok (.iload 6, 2) := by decide +kernel
theorem dX0_keepFirst_56 : decode cX0_keepFirst 56 = .ok (.iconst (-1), 1) := by decide +kernel
theorem dX0_keepFirst_57 : decode cX0_keepFirst 57 = .ok (.iastore, 1) := by decide +kernel
theorem dX0_keepFirst_58 : decode cX0_keepFirst 58 = .ok (.aload_n 1, 1) := by decide +kernel
theorem dX0_keepFirst_59 : decode cX0_keepFirst 59 = .ok (.getfield 68, 3) := by decide +kernel
theorem dX0_keepFirst_62 : decode cX0_keepFirst 62 = .ok (.iload 6, 2) := by decide +kernel
theorem dX0_keepFirst_64 : decode cX0_keepFirst 64 = .ok (.iconst 0, 1) := by decide +kernel
theorem dX0_keepFirst_65 : decode cX0_keepFirst 65 = .ok (.iastore, 1) := by decide +kernel
theorem dX0_keepFirst_66 : decode cX0_keepFirst 66 = .ok (.iinc 5 (-1), 3) := by decide +kernel
theorem dX0_keepFirst_69 : decode cX0_keepFirst 69 = .ok (.goto (-50), 3) := by decide +kernel
theorem dX0_keepFirst_72 : decode cX0_keepFirst 72 = .ok (.return_, 1) := by decide +kernel
theorem dX1_init_0 : decode cX1_init 0 = .ok (.aload_n 0, 1) := by decide +kernel
theorem dX1_init_1 : decode cX1_init 1 = .ok (.invokespecial 3, 3) := by decide +kernel
theorem dX1_init_4 : decode cX1_init 4 = .ok (.aload_n 0, 1) := by decide +kernel
theorem dX1_init_5 : decode cX1_init 5 = .ok (.sipush 200, 3) := by decide +kernel
theorem dX1_init_8 : decode cX1_init 8 = .ok (.newarray .byte, 2) := by decide +kernel
theorem dX1_init_10 : decode cX1_init 10 = .ok (.putfield 9, 3) := by decide +kernel
theorem dX1_init_13 : decode cX1_init 13 = .ok (.aload_n 0, 1) := by decide +kernel
theorem dX1_init_14 : decode cX1_init 14 = .ok (.iconst 0, 1) := by decide +kernel
theorem dX1_init_15 : decode cX1_init 15 = .ok (.putfield 15, 3) := by decide +kernel
theorem dX1_init_18 : decode cX1_init 18 = .ok (.return_, 1) := by decide +kernel
theorem dX2_init_0 : decode cX2_init 0 = .ok (.aload_n 0, 1) := by decide +kernel
theorem dX2_init_1 : decode cX2_init 1 = .ok (.invokespecial 3, 3) := by decide +kernel
theorem dX2_init_4 : decode cX2_init 4 = .ok (.aload_n 0, 1) := by decide +kernel
theorem dX2_init_5 : decode cX2_init 5 = .ok (.iconst 0, 1) := by decide +kernel
theorem dX2_init_6 : decode cX2_init 6 = .ok (.putfield 9, 3) := by decide +kernel
theorem dX2_init_9 : decode cX2_init 9 = .ok (.aload_n 0, 1) := by decide +kernel
theorem dX2_init_10 : decode cX2_init 10 = .ok (.iconst 0, 1) := by decide +kernel
theorem dX2_init_11 : decode cX2_init 11 = .ok (.putfield 15, 3) := by decide +kernel
theorem dX2_init_14 : decode cX2_init 14 = .ok (.aload_n 0, 1) := by decide +kernel
theorem dX2_init_15 : decode cX2_init 15 = .ok (.iconst 0, 1) := by decide +kernel
theorem dX2_init_16 : decode cX2_init 16 = .ok (.putfield 18, 3) := by decide +kernel
theorem dX2_init_19 : decode cX2_init 19 = .ok (.aload_n 0, 1) := by decide +kernel
theorem dX2_init_20 : decode cX2_init 20 = .ok (.iconst 0, 1) := by decide +kernel
theorem dX2_init_21 : decode cX2_init 21 = .ok (.putfield 22, 3) := by decide +kernel
theorem dX2_init_24 : decode cX2_init 24 = .ok (.aload_n 0, 1) := by decide +kernel
theorem dX2_init_25 : decode cX2_init 25 = .ok (.iconst 0, 1) := by decide +kernel
theorem dX2_init_26 : decode cX2_init 26 = .ok (.putfield 25, 3) := by decide +kernel
theorem dX2_init_29 : decode cX2_init 29 = .ok (.aload_n 0, 1) := by decide +kernel
theorem dX2_init_30 : decode cX2_init 30 = .ok (.iconst 0, 1) := by decide +kernel
theorem dX2_init_31 : decode cX2_init 31 = .ok (.putfield 28, 3) := by decide +kernel
theorem dX2_init_34 : decode cX2_init 34 = .ok (.aload_n 0, 1) := by decide +kernel
theorem dX2_init_35 : decode cX2_init 35 = .ok (.lconst 0, 1) := by decide +kernel
theorem dX2_init_36 : decode cX2_init 36 = .ok (.putfield 31, 3) := by decide +kernel
theorem dX2_init_39 : decode cX2_init 39 = .ok (.aload_n 0, 1) := by decide +kernel
theorem dX2_init_40 : decode cX2_init 40 = .ok (.lconst 0, 1) := by decide +kernel
theorem dX2_init_41 : decode cX2_init 41 = .ok (.putfield 35, 3) := by decide +kernel
theorem dX2_init_44 : decode cX2_init 44 = .ok (.aload_n 0, 1) := by decide +kernel
theorem dX2_init_45 : decode cX2_init 45 = .ok (.lconst 0, 1) := by decide +kernel
theorem dX2_init_46 : decode cX2_init 46 = .ok (.putfield 38, 3) := by decide +kernel
theorem dX2_init_49 : decode cX2_init 49 = .ok (.aload_n 0, 1) := by decide +kernel
theorem dX2_init_50 : decode cX2_init 50 = .ok (.lconst 0, 1) := by decide +kernel
theorem dX2_init_51 : decode cX2_init 51 = .ok (.putfield 41, 3) := by decide +kernel
theorem dX2_init_54 : decode cX2_init 54 = .ok (.aload_n 0, 1) := by decide +kernel
theorem dX2_init_55 : decode cX2_init 55 = .ok (.bipush 40, 2) := by decide +kernel
theorem dX2_init_57 : decode cX2_init 57 = .ok (.newarray .int, 2) := by decide +kernel
theorem dX2_init_59 : decode cX2_init 59 = .ok (.putfield 44, 3) := by decide +kernel
theorem dX2_init_62 : decode cX2_init 62 = .ok (.aload_n 0, 1) := by decide +kernel
theorem dX2_init_63 : decode cX2_init 63 = .ok (.bipush 40, 2) := by decide +kernel
theorem dX2_init_65 : decode cX2_init 65 = .ok (.newarray .int, 2) := by decide +kernel
theorem dX2_init_67 : decode cX2_init 67 = .ok (.putfield 48, 3) := by decide +kernel
theorem dX2_init_70 : decode cX2_init 70 = .ok (.aload_n 0, 1) := by decide +kernel
theorem dX2_init_71 : decode cX2_init 71 = .ok (.bipush 40, 2) := by decide +kernel
theorem dX2_init_73 : decode cX2_init 73 = .ok (.newarray .int, 2) := by decide +kernel
theorem dX2_init_75 : decode cX2_init 75 = .ok (.putfield 51, 3) := by decide +kernel
theorem dX2_init_78 : decode cX2_init 78 = .ok (.aload_n 0, 1) := by decide +kernel
theorem dX2_init_79 : decode cX2_init 79 = .ok (.bipush 40, 2) := by decide +kernel
theorem dX2_init_81 : decode cX2_init 81 = .ok (.newarray .int, 2) := by decide +kernel
theorem dX2_init_83 : decode cX2_init 83 = .ok (.putfield 54, 3) := by decide +kernel
theorem dX2_init_86 : decode cX2_init 86 = .ok (.aload_n 0, 1) := by decide +kernel
theorem dX2_init_87 : decode cX2_init 87 = .ok (.bipush 40, 2) := by decide +kernel
theorem dX2_init_89 : decode cX2_init 89 = .ok (.newarray .int, 2) := by decide +kernel
theorem dX2_init_91 : decode cX2_init 91 = .ok (.putfield 57, 3) := by decide +kernel
theorem dX2_init_94 : decode cX2_init 94 = .ok (.aload_n 0, 1) := by decide +kernel
theorem dX2_init_95 : decode cX2_init 95 = .ok (.bipush 40, 2) := by decide +kernel
theorem dX2_init_97 : decode cX2_init 97 = .ok (.newarray .int, 2) := by decide +kernel
theorem dX2_init_99 : decode cX2_init 99 = .ok (.putfield 60, 3) := by decide +kernel
theorem dX2_init_102 : decode cX2_init 102 = .ok (.aload_n 0, 1) := by decide +kernel
theorem dX2_init_103 : decode cX2_init 103 = .ok (.bipush 40, 2) := by decide +kernel
theorem dX2_init_105 : decode cX2_init 105 = .ok (.newarray .int, 2) := by decide +kernel
theorem dX2_init_107 : decode cX2_init 107 = .ok (.putfield 63, 3) := by decide +kernel
theorem dX2_init_110 : decode cX2_init 110 = .ok (.aload_n 0, 1) := by decide +kernel
theorem dX2_init_111 : decode cX2_init 111 = .ok (.bipush 8, 2) := by decide +kernel
theorem dX2_init_113 : decode cX2_init 113 = .ok (.newarray .int, 2) := by decide +kernel
theorem dX2_init_115 : decode cX2_init 115 = .ok (.putfield 66, 3) := by decide +kernel
theorem dX2_init_118 : decode cX2_init 118 = .ok (.aload_n 0, 1) := by decide +kernel
theorem dX2_init_119 : decode cX2_init 119 = .ok (.bipush 8, 2) := by decide +kernel
theorem dX2_init_121 : decode cX2_init 121 = .ok (.newarray .int, 2) := by decide +kernel
theorem dX2_init_123 : decode cX2_init 123 = .ok (.putfield 69, 3) := by decide +kernel
theorem dX2_init_126 : decode cX2_init 126 = .ok (.aload_n 0, 1) := by decide +kernel
theorem dX2_init_127 : decode cX2_init 127 = .ok (.aload_n 1, 1) := by decide +kernel
theorem dX2_init_128 : decode cX2_init 128 = .ok (.putfield 72, 3) := by decide +kernel
theorem dX2_init_131 : decode cX2_init 131 = .ok (.return_, 1) := by decide +kernel
theorem dX2_clear_0 : decode cX2_clear 0 = .ok (.aload_n 0, 1) := by decide +kernel
theorem dX2_clear_1 : decode cX2_clear 1 = .ok (.iconst 0, 1) := by decide +kernel
theorem dX2_clear_2 : decode cX2_clear 2 = .ok (.putfield 9, 3) := by decide +kernel
theorem dX2_clear_5 : decode cX2_clear 5 = .ok (.aload_n 0, 1) := by decide +kernel
theorem dX2_clear_6 : decode cX2_clear 6 = .ok (.iconst 0, 1) := by decide +kernel
theorem dX2_clear_7 : decode cX2_clear 7 = .ok (.putfield 15, 3) := by decide +kernel
theorem dX2_clear_10 : decode cX2_clear 10 = .ok (.aload_n 0, 1) := by decide +kernel
theorem dX2_clear_11 : decode cX2_clear 11 = .ok (.iconst 0, 1) := by decide +kernel
theorem dX2_clear_12 : decode cX2_clear 12 = .ok (.putfield 18, 3) := by decide +kernel
theorem dX2_clear_15 : decode cX2_clear 15 = .ok (.aload_n 0, 1) := by decide +kernel
theorem dX2_clear_16 : decode cX2_clear 16 = .ok (.iconst 0, 1) := by decide +kernel
theorem dX2_clear_17 : decode cX2_clear 17 = .ok (.putfield 22, 3) := by decide +kernel
theorem dX2_clear_20 : decode cX2_clear 20 = .ok (.aload_n 0, 1) := by decide +kernel
theorem dX2_clear_21 : decode cX2_clear 21 = .ok (.iconst 0, 1) := by decide +kernel
theorem dX2_clear_22 : decode cX2_clear 22 = .ok (.putfield 25, 3) := by decide +kernel
theorem dX2_clear_25 : decode cX2_clear 25 = .ok (.aload_n 0, 1) := by decide +kernel
theorem dX2_clear_26 : decode cX2_clear 26 = .ok (.iconst 0, 1) := by decide +kernel
theorem dX2_clear_27 : decode cX2_clear 27 = .ok (.putfield 28, 3) := by decide +kernel
theorem dX2_clear_30 : decode cX2_clear 30 = .ok (.aload_n 0, 1) := by decide +kernel
theorem dX2_clear_31 : decode cX2_clear 31 = .ok (.lconst 0, 1) := by decide +kernel
theorem dX2_clear_32 : decode cX2_clear 32 = .ok (.putfield 31, 3) := by decide +kernel
theorem dX2_clear_35 : decode cX2_clear 35 = .ok (.aload_n 0, 1) := by decide +kernel
theorem dX2_clear_36 : decode cX2_clear 36 = .ok (.lconst 0, 1) := by decide +kernel
theorem dX2_clear_37 : decode cX2_clear 37 = .ok (.putfield 35, 3) := by decide +kernel
theorem dX2_clear_40 : decode cX2_clear 40 = .ok (.aload_n 0, 1) := by decide +kernel
theorem dX2_clear_41 : decode cX2_clear 41 = .ok (.lconst 0, 1) := by decide +kernel
theorem dX2_clear_42 : decode cX2_clear 42 = .ok (.putfield 38, 3) := by decide +kernel
theorem dX2_clear_45 : decode cX2_clear 45 = .ok (.aload_n 0, 1) := by decide +kernel
theorem dX2_clear_46 : decode cX2_clear 46 = .ok (.lconst 0, 1) := by decide +kernel
theorem dX2_clear_47 : decode cX2_clear 47 = .ok (.putfield 41, 3) := by decide +kernel
theorem dX2_clear_50 : decode cX2_clear 50 = .ok (.aload_n 0, 1) := by decide +kernel
theorem dX2_clear_51 : decode cX2_clear 51 = .ok (.getfield 69, 3) := by decide +kernel
theorem dX2_clear_54 : decode cX2_clear 54 = .ok (.iconst 0, 1) := by decide +kernel
theorem dX2_clear_55 : decode cX2_clear 55 = .ok (.invokestatic 76, 3) := by decide +kernel
theorem dX2_clear_58 : decode cX2_clear 58 = .ok (.return_, 1) := by decide +kernel
theorem dX2_copyFrom_0 : decode cX2_copyFrom 0 = .ok (.aload_n 0, 1) := by decide +kernel
theorem dX2_copyFrom_1 : decode cX2_copyFrom 1 = .ok (.aload_n 1, 1) := by decide +kernel
theorem dX2_copyFrom_2 : decode cX2_copyFrom 2 = .ok (.getfield 72, 3) := by decide +kernel
theorem dX2_copyFrom_5 : decode cX2_copyFrom 5 = .ok (.putfield 72, 3) := by decide +kernel
theorem dX2_copyFrom_8 : decode cX2_copyFrom 8 = .ok (.aload_n 0, 1) := by decide +kernel
theorem dX2_copyFrom_9 : decode cX2_copyFrom 9 = .ok (.aload_n 1, 1) := by decide +kernel
theorem dX2_copyFrom_10 : decode cX2_copyFrom 10 = .ok (.getfield 9, 3) := by decide +kernel
theorem dX2_copyFrom_13 : decode cX2_copyFrom 13 = .ok (.putfield 9, 3) := by decide +kernel
theorem dX2_copyFrom_16 : decode cX2_copyFrom 16 = .ok (.aload_n 0, 1) := by decide +kernel
theorem dX2_copyFrom_17 : decode cX2_copyFrom 17 = .ok (.aload_n 1, 1) := by decide +kernel
theorem dX2_copyFrom_18 : decode cX2_copyFrom 18 = .ok (.getfield 15, 3) := by decide +kernel
theorem dX2_copyFrom_21 : decode cX2_copyFrom 21 = .ok (.putfield 15, 3) := by decide +kernel
theorem dX2_copyFrom_24 : decode cX2_copyFrom 24 = .ok (.aload_n 0, 1) := by decide +kernel
theorem dX2_copyFrom_25 : decode cX2_copyFrom 25 = .ok (.aload_n 1, 1) := by decide +kernel
theorem dX2_copyFrom_26 : decode cX2_copyFrom 26 = .ok (.getfield 18, 3) := by decide +kernel
theorem dX2_copyFrom_29 : decode cX2_copyFrom 29 = .ok (.putfield 18, 3) := by decide +kernel
theorem dX2_copyFrom_32 : decode cX2_copyFrom 32 = .ok (.aload_n 0, 1) := by decide +kernel
theorem dX2_copyFrom_33 : decode cX2_copyFrom 33 = .ok (.aload_n 1, 1) := by decide +kernel
theorem dX2_copyFrom_34 : decode cX2_copyFrom 34 = .ok (.getfield 22, 3) := by decide +kernel
theorem dX2_copyFrom_37 : decode cX2_copyFrom 37 = .ok (.putfield 22, 3) := by decide +kernel
theorem dX2_copyFrom_40 : decode cX2_copyFrom 40 = .ok (.aload_n 0, 1) := by decide +kernel
theorem dX2_copyFrom_41 : decode cX2_copyFrom 41 = .ok (.aload_n 1, 1) := by decide +kernel
theorem dX2_copyFrom_42 : decode cX2_copyFrom 42 = .ok (.getfield 25, 3) := by decide +kernel
theorem dX2_copyFrom_45 : decode cX2_copyFrom 45 = .ok (.putfield 25, 3) := by decide +kernel
theorem dX2_copyFrom_48 : decode cX2_copyFrom 48 = .ok (.aload_n 0, 1) := by decide +kernel
theorem dX2_copyFrom_49 : decode cX2_copyFrom 49 = .ok (.aload_n 1, 1) := by decide +kernel
theorem dX2_copyFrom_50 : decode cX2_copyFrom 50 = .ok (.getfield 28, 3) := by decide +kernel
theorem dX2_copyFrom_53 : decode cX2_copyFrom 53 = .ok (.putfield 28, 3) := by decide +kernel
theorem dX2_copyFrom_56 : decode cX2_copyFrom 56 = .ok (.aload_n 0, 1) := by decide +kernel
theorem dX2_copyFrom_57 : decode cX2_copyFrom 57 = .ok (.aload_n 1, 1) := by decide +kernel
theorem dX2_copyFrom_58 : decode cX2_copyFrom 58 = .ok (.getfield 31, 3) := by decide +kernel
theorem dX2_copyFrom_61 : decode cX2_copyFrom 61 = .ok (.putfield 31, 3) := by decide +kernel
theorem dX2_copyFrom_64 : decode cX2_copyFrom 64 = .ok (.aload_n 0, 1) := by decide +kernel
theorem dX2_copyFrom_65 : decode cX2_copyFrom 65 = .ok (.aload_n 1, 1) := by decide +kernel
theorem dX2_copyFrom_66 : decode cX2_copyFrom 66 = .ok (.getfield 35, 3) := by decide +kernel
theorem dX2_copyFrom_69 : decode cX2_copyFrom 69 = .ok (.putfield 35, 3) := by decide +kernel
theorem dX2_copyFrom_72 : decode cX2_copyFrom 72 = .ok (.aload_n 0, 1) := by decide +kernel
theorem dX2_copyFrom_73 : decode cX2_copyFrom 73 = .ok (.aload_n 1, 1) := by decide +kernel
theorem dX2_copyFrom_74 : decode cX2_copyFrom 74 = .ok (.getfield 38, 3) := by decide +kernel
theorem dX2_copyFrom_77 : decode cX2_copyFrom 77 = .ok (.putfield 38, 3) := by decide +kernel
theorem dX2_copyFrom_80 : decode cX2_copyFrom 80 = .ok (.aload_n 0, 1) := by decide +kernel
theorem dX2_copyFrom_81 : decode cX2_copyFrom 81 = .ok (.aload_n 1, 1) := by decide +kernel
theorem dX2_copyFrom_82 : decode cX2_copyFrom 82 = .ok (.getfield 41, 3) := by decide +kernel
theorem dX2_copyFrom_85 : decode cX2_copyFrom 85 = .ok (.putfield 41, 3) := by decide +kernel
theorem dX2_copyFrom_88 : decode cX2_copyFrom 88 = .ok (.aload_n 1, 1) := by decide +kernel
theorem dX2_copyFrom_89 : decode cX2_copyFrom 89 = .ok (.getfield 44, 3) := by decide +kernel
theorem dX2_copyFrom_92 : decode cX2_copyFrom 92 = .ok (.iconst 0, 1) := by decide +kernel
theorem dX2_copyFrom_93 : decode cX2_copyFrom 93 = .ok (.aload_n 0, 1) := by decide +kernel
theorem dX2_copyFrom_94 : decode cX2_copyFrom 94 = .ok (.getfield 44, 3) := by decide +kernel
theorem dX2_copyFrom_97 : decode cX2_copyFrom 97 = .ok (.iconst 0, 1) := by decide +kernel
theorem dX2_copyFrom_98 : decode cX2_copyFrom 98 = .ok (.bipush 40, 2) := by decide +kernel
theorem dX2_copyFrom_100 : decode cX2_copyFrom 100 = .ok (.invokestatic 82, 3) := by decide +kernel
theorem dX2_copyFrom_103 : decode cX2_copyFrom 103 = .ok (.aload_n 1, 1) := by decide +kernel
theorem dX2_copyFrom_104 : decode cX2_copyFrom 104 = .ok (.getfield 48, 3) := by decide +kernel
theorem dX2_copyFrom_107 : decode cX2_copyFrom 107 = .ok (.iconst 0, 1) := by decide +kernel
theorem dX2_copyFrom_108 : decode cX2_copyFrom 108 = .ok (.aload_n 0, 1) := by decide +kernel
theorem dX2_copyFrom_109 : decode cX2_copyFrom 109 = .ok (.getfield 48, 3) := by decide +kernel
theorem dX2_copyFrom_112 : decode cX2_copyFrom 112 = .ok (.iconst 0, 1) := by decide +kernel
theorem dX2_copyFrom_113 : decode cX2_copyFrom 113 = .ok (.bipush 40, 2) := by decide +kernel
theorem dX2_copyFrom_115 : decode cX2_copyFrom 115 = .ok (.invokestatic 82, 3) := by decide +kernel
theorem dX2_copyFrom_118 : decode cX2_copyFrom 118 = .ok (.aload_n 1, 1) := by decide +kernel
theorem dX2_copyFrom_119 : decode cX2_copyFrom 119 = .ok (.getfield 51, 3) := by decide +kernel
theorem dX2_copyFrom_122 : decode cX2_copyFrom 122 = .ok (.iconst 0, 1) := by decide +kernel
theorem dX2_copyFrom_123 : decode cX2_copyFrom 123 = .ok (.aload_n 0, 1) := by decide +kernel
theorem dX2_copyFrom_124 : decode cX2_copyFrom 124 = .ok (.getfield 51, 3) := by decide +kernel
theorem dX2_copyFrom_127 : decode cX2_copyFrom 127 = .ok (.iconst 0, 1) := by decide +kernel
theorem dX2_copyFrom_128 : decode cX2_copyFrom 128 = .ok (.bipush 40, 2) := by decide +kernel
theorem dX2_copyFrom_130 : decode cX2_copyFrom 130 = .ok (.invokestatic 82, 3) := by decide +kernel
theorem dX2_copyFrom_133 : decode cX2_copyFrom 133 = .ok (.aload_n 1, 1) := by decide +kernel
theorem dX2_copyFrom_134 : decode cX2_copyFrom 134 = .ok (.getfield 54, 3) := by decide +kernel
theorem dX2_copyFrom_137 : decode cX2_copyFrom 137 = .ok (.iconst 0, 1) := by decide +kernel
theorem dX2_copyFrom_138 : decode cX2_copyFrom 138 = .ok (.aload_n 0, 1) := by decide +kernel
theorem dX2_copyFrom_139 : decode cX2_copyFrom 139 = .ok (.getfield 54, 3) := by decide +kernel
theorem dX2_copyFrom_142 : decode cX2_copyFrom 142 = .ok (.iconst 0, 1) := by decide +kernel
theorem dX2_copyFrom_143 : decode cX2_copyFrom 143 = .ok (.bipush 40, 2) := by decide +kernel
theorem dX2_copyFrom_145 : decode cX2_copyFrom 145 = .ok (.invokestatic 82, 3) := by decide +kernel
theorem dX2_copyFrom_148 : decode cX2_copyFrom 148 = .ok (.aload_n 1, 1) := by decide +kernel
theorem dX2_copyFrom_149 : decode cX2_copyFrom 149 = .ok (.getfield 57, 3) := by decide +kernel
theorem dX2_copyFrom_152 : decode cX2_copyFrom 152 = .ok (.iconst 0, 1) := by decide +kernel
theorem dX2_copyFrom_153 : decode cX2_copyFrom 153 = .ok (.aload_n 0, 1) := by decide +kernel
theorem dX2_copyFrom_154 : decode cX2_copyFrom 154 = .ok (.getfield 57, 3) := by decide +kernel
theorem dX2_copyFrom_157 : decode cX2_copyFrom 157 = .ok (.iconst 0, 1) := by decide +kernel
theorem dX2_copyFrom_158 : decode cX2_copyFrom 158 = .ok (.bipush 40, 2) := by decide +kernel
theorem dX2_copyFrom_160 : decode cX2_copyFrom 160 = .ok (.invokestatic 82, 3) := by decide +kernel
theorem dX2_copyFrom_163 : decode cX2_copyFrom 163 = .ok (.aload_n 1, 1) := by decide +kernel
theorem dX2_copyFrom_164 : decode cX2_copyFrom 164 = .ok (.getfield 60, 3) := by decide +kernel
theorem dX2_copyFrom_167 : decode cX2_copyFrom 167 = .ok (.iconst 0, 1) := by decide +kernel
theorem dX2_copyFrom_168 : decode cX2_copyFrom 168 = .ok (.aload_n 0, 1) := by decide +kernel
theorem dX2_copyFrom_169 : decode cX2_copyFrom 169 = .ok (.getfield 60, 3) := by decide +kernel
theorem dX2_copyFrom_172 : decode cX2_copyFrom 172 = .ok (.iconst 0, 1) := by decide +kernel
theorem dX2_copyFrom_173 : decode cX2_copyFrom 173 = .ok (.bipush 40, 2) := by decide +kernel
theorem dX2_copyFrom_175 : decode cX2_copyFrom 175 = .ok (.invokestatic 82, 3) := by decide +kernel
theorem dX2_copyFrom_178 : decode cX2_copyFrom 178 = .ok (.aload_n 1, 1) := by decide +kernel
theorem dX2_copyFrom_179 : decode cX2_copyFrom 179 = .ok (.getfield 63, 3) := by decide +kernel
theorem dX2_copyFrom_182 : decode cX2_copyFrom 182 = .ok (.iconst 0, 1) := by decide +kernel
theorem dX2_copyFrom_183 : decode cX2_copyFrom 183 = .ok (.aload_n 0, 1) := by decide +kernel
theorem dX2_copyFrom_184 : decode cX2_copyFrom 184 = .ok (.getfield 63, 3) := by decide +kernel
theorem dX2_copyFrom_187 : decode cX2_copyFrom 187 = .ok (.iconst 0, 1) := by decide +kernel
theorem dX2_copyFrom_188 : decode cX2_copyFrom 188 = .ok (.bipush 40, 2) := by decide +kernel
theorem dX2_copyFrom_190 : decode cX2_copyFrom 190 = .ok (.invokestatic 82, 3) := by decide +kernel
theorem dX2_copyFrom_193 : decode cX2_copyFrom 193 = .ok (.aload_n 1, 1) := by decide +kernel
theorem dX2_copyFrom_194 : decode cX2_copyFrom 194 = .ok (.getfield 66, 3) := by decide +kernel
theorem dX2_copyFrom_197 : decode cX2_copyFrom 197 = .ok (.iconst 0, 1) := by decide +kernel
theorem dX2_copyFrom_198 : decode cX2_copyFrom 198 = .ok (.aload_n 0, 1) := by decide +kernel
theorem dX2_copyFrom_199 : decode cX2_copyFrom 199 = .ok (.getfield 66, 3) := by decide +kernel
theorem dX2_copyFrom_202 : decode cX2_copyFrom 202 = .ok (.iconst 0, 1) := by decide +kernel
theorem dX2_copyFrom_203 : decode cX2_copyFrom 203 = .ok (.bipush 8, 2) := by decide +kernel
theorem dX2_copyFrom_205 : decode cX2_copyFrom 205 = .ok (.invokestatic 82, 3) := by decide +kernel
theorem dX2_copyFrom_208 : decode cX2_copyFrom 208 = .ok (.aload_n 1, 1) := by decide +kernel
theorem dX2_copyFrom_209 : decode cX2_copyFrom 209 = .ok (.getfield 69, 3) := by decide +kernel
theorem dX2_copyFrom_212 : decode cX2_copyFrom 212 = .ok (.iconst 0, 1) := by decide +kernel
theorem dX2_copyFrom_213 : decode cX2_copyFrom 213 = .ok (.aload_n 0, 1) := by decide +kernel
theorem dX2_copyFrom_214 : decode cX2_copyFrom 214 = .ok (.getfield 69, 3) := by decide +kernel
theorem dX2_copyFrom_217 : decode cX2_copyFrom 217 = .ok (.iconst 0, 1) := by decide +kernel
theorem dX2_copyFrom_218 : decode cX2_copyFrom 218 = .ok (.bipush 8, 2) := by decide +kernel
theorem dX2_copyFrom_220 : decode cX2_copyFrom 220 = .ok (.invokestatic 82, 3) := by decide +kernel
theorem dX2_copyFrom_223 : decode cX2_copyFrom 223 = .ok (.return_, 1) := by decide +kernel
theorem dX2_enrol_0 : decode cX2_enrol 0 = .ok (.aload_n 0, 1) := by decide +kernel
theorem dX2_enrol_1 : decode cX2_enrol 1 = .ok (.getfield 9, 3) := by decide +kernel
theorem dX2_enrol_4 : decode cX2_enrol 4 = .ok (.istore 6, 2) := by decide +kernel
theorem dX2_enrol_6 : decode cX2_enrol 6 = .ok (.aload_n 0, 1) := by decide +kernel
theorem dX2_enrol_7 : decode cX2_enrol 7 = .ok (.dup, 1) := by decide +kernel
theorem dX2_enrol_8 : decode cX2_enrol 8 = .ok (.getfield 9, 3) := by decide +kernel
theorem dX2_enrol_11 : decode cX2_enrol 11 = .ok (.iconst 1, 1) := by decide +kernel
theorem dX2_enrol_12 : decode cX2_enrol 12 = .ok (.iadd, 1) := by decide +kernel
theorem dX2_enrol_13 : decode cX2_enrol 13 = .ok (.putfield 9, 3) := by decide +kernel
theorem dX2_enrol_16 : decode cX2_enrol 16 = .ok (.aload_n 0, 1) := by decide +kernel
theorem dX2_enrol_17 : decode cX2_enrol 17 = .ok (.aload_n 0, 1) := by decide +kernel
theorem dX2_enrol_18 : decode cX2_enrol 18 = .ok (.getfield 15, 3) := by decide +kernel
theorem dX2_enrol_21 : decode cX2_enrol 21 = .ok (.ldc 88, 2) := by decide +kernel
theorem dX2_enrol_23 : decode cX2_enrol 23 = .ok (.imul, 1) := by decide +kernel
theorem dX2_enrol_24 : decode cX2_enrol 24 = .ok (.sipush 12345, 3) := by decide +kernel
theorem dX2_enrol_27 : decode cX2_enrol 27 = .ok (.iadd, 1) := by decide +kernel
theorem dX2_enrol_28 : decode cX2_enrol 28 = .ok (.ldc 89, 2) := by decide +kernel
theorem dX2_enrol_30 : decode cX2_enrol 30 = .ok (.iand, 1) := by decide +kernel
theorem dX2_enrol_31 : decode cX2_enrol 31 = .ok (.putfield 15, 3) := by decide +kernel
theorem dX2_enrol_34 : decode cX2_enrol 34 = .ok (.aload_n 0, 1) := by decide +kernel
theorem dX2_enrol_35 : decode cX2_enrol 35 = .ok (.getfield 44, 3) := by decide +kernel
theorem dX2_enrol_38 : decode cX2_enrol 38 = .ok (.iload 6, 2) := by decide +kernel
theorem dX2_enrol_40 : decode cX2_enrol 40 = .ok (.iload_n 1, 1) := by decide +kernel
theorem dX2_enrol_41 : decode cX2_enrol 41 = .ok (.iastore, 1) := by decide +kernel
theorem dX2_enrol_42 : decode cX2_enrol 42 = .ok (.aload_n 0, 1) := by decide +kernel
theorem dX2_enrol_43 : decode cX2_enrol 43 = .ok (.getfield 48, 3) := by decide +kernel
theorem dX2_enrol_46 : decode cX2_enrol 46 = .ok (.iload 6, 2) := by decide +kernel
theorem dX2_enrol_48 : decode cX2_enrol 48 = .ok (.iload_n 2, 1) := by decide +kernel
theorem dX2_enrol_49 : decode cX2_enrol 49 = .ok (.iastore, 1) := by decide +kernel
theorem dX2_enrol_50 : decode cX2_enrol 50 = .ok (.aload_n 0, 1) := by decide +kernel
theorem dX2_enrol_51 : decode cX2_enrol 51 = .ok (.getfield 51, 3) := by decide +kernel
theorem dX2_enrol_54 : decode cX2_enrol 54 = .ok (.iload 6, 2) := by decide +kernel
theorem dX2_enrol_56 : decode cX2_enrol 56 = .ok (.iload_n 3, 1) := by decide +kernel
theorem dX2_enrol_57 : decode cX2_enrol 57 = .ok (.iastore, 1) := by decide +kernel
theorem dX2_enrol_58 : decode cX2_enrol 58 = .ok (.aload_n 0, 1) := by decide +kernel
theorem dX2_enrol_59 : decode cX2_enrol 59 = .ok (.getfield 54, 3) := by decide +kernel
theorem dX2_enrol_62 : decode cX2_enrol 62 = .ok (.iload 6, 2) := by decide +kernel
theorem dX2_enrol_64 : decode cX2_enrol 64 = .ok (.aload_n 0, 1) := by decide +kernel
theorem dX2_enrol_65 : decode cX2_enrol 65 = .ok (.getfield 15, 3) := by decide +kernel
theorem dX2_enrol_68 : decode cX2_enrol 68 = .ok (.ldc 90, 2) := by decide +kernel
theorem dX2_enrol_70 : decode cX2_enrol 70 = .ok (.idiv, 1) := by decide +kernel
theorem dX2_enrol_71 : decode cX2_enrol 71 = .ok (.sipush 10000, 3) := by decide +kernel
theorem dX2_enrol_74 : decode cX2_enrol 74 = .ok (.irem, 1) := by decide +kernel
theorem dX2_enrol_75 : decode cX2_enrol 75 = .ok (.iastore, 1) := by decide +kernel
theorem dX2_enrol_76 : decode cX2_enrol 76 = .ok (.aload_n 0, 1) := by decide +kernel
theorem dX2_enrol_77 : decode cX2_enrol 77 = .ok (.getfield 57, 3) := by decide +kernel
theorem dX2_enrol_80 : decode cX2_enrol 80 = .ok (.iload 6, 2) := by decide +kernel
theorem dX2_enrol_82 : decode cX2_enrol 82 = .ok (.iload 5, 2) := by decide +kernel
theorem dX2_enrol_84 : decode cX2_enrol 84 = .ok (.iastore, 1) := by decide +kernel
theorem dX2_enrol_85 : decode cX2_enrol 85 = .ok (.aload_n 0, 1) := by decide +kernel
theorem dX2_enrol_86 : decode cX2_enrol 86 = .ok (.getfield 60, 3) := by decide +kernel
theorem dX2_enrol_89 : decode cX2_enrol 89 = .ok (.iload 6, 2) := by decide +kernel
theorem dX2_enrol_91 : decode cX2_enrol 91 = .ok (.iconst (-1), 1) := by decide +kernel
theorem dX2_enrol_92 : decode cX2_enrol 92 = .ok (.iastore, 1) := by decide +kernel
theorem dX2_enrol_93 : decode cX2_enrol 93 = .ok (.aload_n 0, 1) := by decide +kernel
theorem dX2_enrol_94 : decode cX2_enrol 94 = .ok (.getfield 63, 3) := by decide +kernel
theorem dX2_enrol_97 : decode cX2_enrol 97 = .ok (.iload 6, 2) := by decide +kernel
theorem dX2_enrol_99 : decode cX2_enrol 99 = .ok (.iconst 0, 1) := by decide +kernel
theorem dX2_enrol_100 : decode cX2_enrol 100 = .ok (.iastore, 1) := by decide +kernel
theorem dX2_enrol_101 : decode cX2_enrol 101 = .ok (.iload 4, 2) := by decide +kernel
theorem dX2_enrol_103 : decode cX2_enrol 103 = .ok (.ifCond .eq 16, 3) := by decide +kernel
theorem dX2_enrol_106 : decode cX2_enrol 106 = .ok (.aload_n 0, 1) := by decide +kernel
theorem dX2_enrol_107 : decode cX2_enrol 107 = .ok (.dup, 1) := by decide +kernel
theorem dX2_enrol_108 : decode cX2_enrol 108 = .ok (.getfield 31, 3) := by decide +kernel
theorem dX2_enrol_111 : decode cX2_enrol 111 = .ok (.lconst 1, 1) := by decide +kernel
theorem dX2_enrol_112 : decode cX2_enrol 112 = .ok (.iload 6, 2) := by decide +kernel
theorem dX2_enrol_114 : decode cX2_enrol 114 = .ok (.lshl, 1) := by decide +kernel
theorem dX2_enrol_115 : decode cX2_enrol 115 = .ok (.lor, 1) := by decide +kernel
theorem dX2_enrol_116 : decode cX2_enrol 116 = .ok (.putfield 31, 3) := by decide +kernel
theorem dX2_enrol_119 : decode cX2_enrol 119 = .ok (.aload_n 0, 1) := by decide +kernel
theorem dX2_enrol_120 : decode cX2_enrol 120 = .ok (.getfield 22, 3) := by decide +kernel
theorem dX2_enrol_123 : decode cX2_enrol 123 = .ok (.ifCond .eq 16, 3) := by decide +kernel
theorem dX2_enrol_126 : decode cX2_enrol 126 = .ok (.aload_n 0, 1) := by decide +kernel
theorem dX2_enrol_127 : decode cX2_enrol 127 = .ok (.dup, 1) := by decide +kernel
theorem dX2_enrol_128 : decode cX2_enrol 128 = .ok (.getfield 35, 3) := by decide +kernel
theorem dX2_enrol_131 : decode cX2_enrol 131 = .ok (.lconst 1, 1) := by decide +kernel
theorem dX2_enrol_132 : decode cX2_enrol 132 = .ok (.iload 6, 2) := by decide +kernel
theorem dX2_enrol_134 : decode cX2_enrol 134 = .ok (.lshl, 1) := by decide +kernel
theorem dX2_enrol_135 : decode cX2_enrol 135 = .ok (.lor, 1) := by decide +kernel
theorem dX2_enrol_136 : decode cX2_enrol 136 = .ok (.putfield 35, 3) := by decide +kernel
theorem dX2_enrol_139 : decode cX2_enrol 139 = .ok (.iload 6, 2) := by decide +kernel
theorem dX2_enrol_141 : decode cX2_enrol 141 = .ok (.ireturn, 1) := by decide +kernel
theorem dX2_fits_0 : decode cX2_fits 0 = .ok (.iload_n 3, 1) := by decide +kernel
theorem dX2_fits_1 : decode cX2_fits 1 = .ok (.ifCond .ne 22, 3) := by decide +kernel
theorem dX2_fits_4 : decode cX2_fits 4 = .ok (.aload_n 0, 1) := by decide +kernel
theorem dX2_fits_5 : decode cX2_fits 5 = .ok (.getfield 31, 3) := by decide +kernel
theorem dX2_fits_8 : decode cX2_fits 8 = .ok (.iload_n 1, 1) := by decide +kernel
theorem dX2_fits_9 : decode cX2_fits 9 = .ok (.lshr, 1) := by decide +kernel
theorem dX2_fits_10 : decode cX2_fits 10 = .ok (.lconst 1, 1) := by decide +kernel
theorem dX2_fits_11 : decode cX2_fits 11 = .ok (.land, 1) := by decide +kernel
theorem dX2_fits_12 : decode cX2_fits 12 = .ok (.lconst 0, 1) := by decide +kernel
theorem dX2_fits_13 : decode cX2_fits 13 = .ok (.lcmp, 1) := by decide +kernel
theorem dX2_fits_14 : decode cX2_fits 14 = .ok (.ifCond .eq 7, 3) := by decide +kernel
theorem dX2_fits_17 : decode cX2_fits 17 = .ok (.iconst 1, 1) := by decide +kernel
theorem dX2_fits_18 : decode cX2_fits 18 = .ok (.goto 4, 3) := by decide +kernel
theorem dX2_fits_21 : decode cX2_fits 21 = .ok (.iconst 0, 1) := by decide +kernel
theorem dX2_fits_22 : decode cX2_fits 22 = .ok (.ireturn, 1) := by decide +kernel
theorem dX2_fits_23 : decode cX2_fits 23 = .ok (.iload_n 3, 1) := by decide +kernel
theorem dX2_fits_24 : decode cX2_fits 24 = .ok (.iconst 1, 1) := by decide +kernel
theorem dX2_fits_25 : decode cX2_fits 25 = .ok (.if_icmp .ne 39, 3) := by decide +kernel
theorem dX2_fits_28 : decode cX2_fits 28 = .ok (.aload_n 0, 1) := by decide +kernel
theorem dX2_fits_29 : decode cX2_fits 29 = .ok (.getfield 51, 3) := by decide +kernel
theorem dX2_fits_32 : decode cX2_fits 32 = .ok (.iload_n 1, 1) := by decide +kernel
theorem dX2_fits_33 : decode cX2_fits 33 = .ok (.iaload, 1) := by decide +kernel
theorem dX2_fits_34 : decode cX2_fits 34 = .ok (.ifCond .eq 28, 3) := by decide +kernel
theorem dX2_fits_37 : decode cX2_fits 37 = .ok (.aload_n 0, 1) := by decide +kernel
theorem dX2_fits_38 : decode cX2_fits 38 = .ok (.getfield 72, 3) := by decide +kernel
theorem dX2_fits_41 : decode cX2_fits 41 = .ok (.getfield 91, 3) := by decide +kernel
theorem dX2_fits_44 : decode cX2_fits 44 = .ok (.aload_n 0, 1) := by decide +kernel
theorem dX2_fits_45 : decode cX2_fits 45 = .ok (.getfield 51, 3) := by decide +kernel
theorem dX2_fits_48 : decode cX2_fits 48 = .ok (.iload_n 1, 1) := by decide +kernel
theorem dX2_fits_49 : decode cX2_fits 49 = .ok (.iaload, 1) := by decide +kernel
theorem dX2_fits_50 : decode cX2_fits 50 = .ok (.iaload, 1) := by decide +kernel
theorem dX2_fits_51 : decode cX2_fits 51 = .ok (.iload_n 2, 1) := by decide +kernel
theorem dX2_fits_52 : decode cX2_fits 52 = .ok (.ishr, 1) := by decide +kernel
theorem dX2_fits_53 : decode cX2_fits 53 = .ok (.iconst 1, 1) := by decide +kernel
theorem dX2_fits_54 : decode cX2_fits 54 = .ok (.iand, 1) := by decide +kernel
theorem dX2_fits_55 : decode cX2_fits 55 = .ok (.ifCond .eq 7, 3) := by decide +kernel
theorem dX2_fits_58 : decode cX2_fits 58 = .ok (.iconst 1, 1) := by decide +kernel
theorem dX2_fits_59 : decode cX2_fits 59 = .ok (.goto 4, 3) := by decide +kernel
theorem dX2_fits_62 : decode cX2_fits 62 = .ok (.iconst 0, 1) := by decide +kernel
theorem dX2_fits_63 : decode cX2_fits 63 = .ok (.ireturn, 1) := by decide +kernel
theorem dX2_fits_64 : decode cX2_fits 64 = .ok (.aload_n 0, 1) := by decide +kernel
theorem dX2_fits_65 : decode cX2_fits 65 = .ok (.getfield 72, 3) := by decide +kernel
theorem dX2_fits_68 : decode cX2_fits 68 = .ok (.getfield 96, 3) := by decide +kernel
theorem dX2_fits_71 : decode cX2_fits 71 = .ok (.iload_n 2, 1) := by decide +kernel
theorem dX2_fits_72 : decode cX2_fits 72 = .ok (.iaload, 1) := by decide +kernel
theorem dX2_fits_73 : decode cX2_fits 73 = .ok (.aload_n 0, 1) := by decide +kernel
theorem dX2_fits_74 : decode cX2_fits 74 = .ok (.getfield 44, 3) := by decide +kernel
theorem dX2_fits_77 : decode cX2_fits 77 = .ok (.iload_n 1, 1) := by decide +kernel
theorem dX2_fits_78 : decode cX2_fits 78 = .ok (.iaload, 1) := by decide +kernel
theorem dX2_fits_79 : decode cX2_fits 79 = .ok (.if_icmp .gt 61, 3) := by decide +kernel
theorem dX2_fits_82 : decode cX2_fits 82 = .ok (.aload_n 0, 1) := by decide +kernel
theorem dX2_fits_83 : decode cX2_fits 83 = .ok (.getfield 44, 3) := by decide +kernel
theorem dX2_fits_86 : decode cX2_fits 86 = .ok (.iload_n 1, 1) := by decide +kernel
theorem dX2_fits_87 : decode cX2_fits 87 = .ok (.iaload, 1) := by decide +kernel
theorem dX2_fits_88 : decode cX2_fits 88 = .ok (.aload_n 0, 1) := by decide +kernel
theorem dX2_fits_89 : decode cX2_fits 89 = .ok (.getfield 72, 3) := by decide +kernel
theorem dX2_fits_92 : decode cX2_fits 92 = .ok (.getfield 99, 3) := by decide +kernel
theorem dX2_fits_95 : decode cX2_fits 95 = .ok (.iload_n 2, 1) := by decide +kernel
theorem dX2_fits_96 : decode cX2_fits 96 = .ok (.iaload, 1) := by decide +kernel
theorem dX2_fits_97 : decode cX2_fits 97 = .ok (.if_icmp .gt 43, 3) := by decide +kernel
theorem dX2_fits_100 : decode cX2_fits 100 = .ok (.aload_n 0, 1) := by decide +kernel
theorem dX2_fits_101 : decode cX2_fits 101 = .ok (.getfield 72, 3) := by decide +kernel
theorem dX2_fits_104 : decode cX2_fits 104 = .ok (.getfield 102, 3) := by decide +kernel
theorem dX2_fits_107 : decode cX2_fits 107 = .ok (.iload_n 2, 1) := by decide +kernel
theorem dX2_fits_108 : decode cX2_fits 108 = .ok (.iaload, 1) := by decide +kernel
theorem dX2_fits_109 : decode cX2_fits 109 = .ok (.aload_n 0, 1) := by decide +kernel
theorem dX2_fits_110 : decode cX2_fits 110 = .ok (.getfield 48, 3) := by decide +kernel
theorem dX2_fits_113 : decode cX2_fits 113 = .ok (.iload_n 1, 1) := by decide +kernel
theorem dX2_fits_114 : decode cX2_fits 114 = .ok (.iaload, 1) := by decide +kernel
theorem dX2_fits_115 : decode cX2_fits 115 = .ok (.if_icmp .gt 25, 3) := by decide +kernel
theorem dX2_fits_118 : decode cX2_fits 118 = .ok (.aload_n 0, 1) := by decide +kernel
theorem dX2_fits_119 : decode cX2_fits 119 = .ok (.getfield 48, 3) := by decide +kernel
theorem dX2_fits_122 : decode cX2_fits 122 = .ok (.iload_n 1, 1) := by decide +kernel
theorem dX2_fits_123 : decode cX2_fits 123 = .ok (.iaload, 1) := by decide +kernel
theorem dX2_fits_124 : decode cX2_fits 124 = .ok (.aload_n 0, 1) := by decide +kernel
theorem dX2_fits_125 : decode cX2_fits 125 = .ok (.getfield 72, 3) := by decide +kernel
theorem dX2_fits_128 : decode cX2_fits 128 = .ok (.getfield 105, 3) := by decide +kernel
theorem dX2_fits_131 : decode cX2_fits 131 = .ok (.iload_n 2, 1) := by decide +kernel
theorem dX2_fits_132 : decode cX2_fits 132 = .ok (.iaload, 1) := by decide +kernel
theorem dX2_fits_133 : decode cX2_fits 133 = .ok (.if_icmp .gt 7, 3) := by decide +kernel
theorem dX2_fits_136 : decode cX2_fits 136 = .ok (.iconst 1, 1) := by decide +kernel
theorem dX2_fits_137 : decode cX2_fits 137 = .ok (.goto 4, 3) := by decide +kernel
theorem dX2_fits_140 : decode cX2_fits 140 = .ok (.iconst 0, 1) := by decide +kernel
theorem dX2_fits_141 : decode cX2_fits 141 = .ok (.ireturn, 1) := by decide +kernel
theorem dX2_rankClass_0 : decode cX2_rankClass 0 = .ok (.iconst 0, 1) := by decide +kernel
theorem dX2_rankClass_1 : decode cX2_rankClass 1 = .ok (.istore_n 3, 1) := by decide +kernel
theorem dX2_rankClass_2 : decode cX2_rankClass 2 = .ok (.iconst 0, 1) := by decide +kernel
theorem dX2_rankClass_3 : decode cX2_rankClass 3 = .ok (.istore 4, 2) := by decide +kernel
theorem dX2_rankClass_5 : decode cX2_rankClass 5 = .ok (.iload 4, 2) := by decide +kernel
theorem dX2_rankClass_7 : decode cX2_rankClass 7 = .ok (.iconst 3, 1) := by decide +kernel
theorem dX2_rankClass_8 : decode cX2_rankClass 8 = .ok (.if_icmp .ge 47, 3) := by decide +kernel
theorem dX2_rankClass_11 : decode cX2_rankClass 11 = .ok (.aload_n 0, 1) := by decide +kernel
theorem dX2_rankClass_12 : decode cX2_rankClass 12 = .ok (.getfield 72, 3) := by decide +kernel
theorem dX2_rankClass_15 : decode cX2_rankClass 15 = .ok (.getfield 108, 3) := by decide +kernel
theorem dX2_rankClass_18 : decode cX2_rankClass 18 = .ok (.iload_n 2, 1) := by decide +kernel
theorem dX2_rankClass_19 : decode cX2_rankClass 19 = .ok (.iaload, 1) := by decide +kernel
theorem dX2_rankClass_20 : decode cX2_rankClass 20 = .ok (.iload 4, 2) := by decide +kernel
theorem dX2_rankClass_22 : decode cX2_rankClass 22 = .ok (.invokestatic 111, 3) := by decide +kernel
theorem dX2_rankClass_25 : decode cX2_rankClass 25 = .ok (.istore 5, 2) := by decide +kernel
theorem dX2_rankClass_27 : decode cX2_rankClass 27 = .ok (.iload 5, 2) := by decide +kernel
theorem dX2_rankClass_29 : decode cX2_rankClass 29 = .ok (.iconst (-1), 1) := by decide +kernel
theorem dX2_rankClass_30 : decode cX2_rankClass 30 = .ok (.if_icmp .eq 14, 3) := by decide +kernel
theorem dX2_rankClass_33 : decode cX2_rankClass 33 = .ok (.aload_n 0, 1) := by decide +kernel
theorem dX2_rankClass_34 : decode cX2_rankClass 34 = .ok (.iload_n 1, 1) := by decide +kernel
theorem dX2_rankClass_35 : decode cX2_rankClass 35 = .ok (.iload_n 2, 1) := by decide +kernel
theorem dX2_rankClass_36 : decode cX2_rankClass 36 = .ok (.iload 5, 2) := by decide +kernel
theorem dX2_rankClass_38 : decode cX2_rankClass 38 = .ok (.invokevirtual 115, 3) := by decide +kernel
theorem dX2_rankClass_41 : decode cX2_rankClass 41 = .ok (.ifCond .eq 5, 3) := by decide +kernel
theorem dX2_rankClass_44 : decode cX2_rankClass 44 = .ok (.iload_n 3, 1) := by decide +kernel
theorem dX2_rankClass_45 : decode cX2_rankClass 45 = .ok (.ireturn, 1) := by decide +kernel
theorem dX2_rankClass_46 : decode cX2_rankClass 46 = .ok (.iinc 3 1, 3) := by decide +kernel
theorem dX2_rankClass_49 : decode cX2_rankClass 49 = .ok (.iinc 4 1, 3) := by decide +kernel
theorem dX2_rankClass_52 : decode cX2_rankClass 52 = .ok (.goto (-47), 3) := by decide +kernel
theorem dX2_rankClass_55 : decode cX2_rankClass 55 = .ok (.iload_n 3, 1) := by decide +kernel
theorem dX2_rankClass_56 : decode cX2_rankClass 56 = .ok (.ireturn, 1) := by decide +kernel
theorem dX2_squareWay_0 : decode cX2_squareWay 0 = .ok (.aload_n 0, 1) := by decide +kernel
theorem dX2_squareWay_1 : decode cX2_squareWay 1 = .ok (.getfield 44, 3) := by decide +kernel
theorem dX2_squareWay_4 : decode cX2_squareWay 4 = .ok (.iload_n 1, 1) := by decide +kernel
theorem dX2_squareWay_5 : decode cX2_squareWay 5 = .ok (.iaload, 1) := by decide +kernel
theorem dX2_squareWay_6 : decode cX2_squareWay 6 = .ok (.aload_n 0, 1) := by decide +kernel
theorem dX2_squareWay_7 : decode cX2_squareWay 7 = .ok (.getfield 72, 3) := by decide +kernel
theorem dX2_squareWay_10 : decode cX2_squareWay 10 = .ok (.getfield 119, 3) := by decide +kernel
theorem dX2_squareWay_13 : decode cX2_squareWay 13 = .ok (.iload_n 2, 1) := by decide +kernel
theorem dX2_squareWay_14 : decode cX2_squareWay 14 = .ok (.iaload, 1) := by decide +kernel
theorem dX2_squareWay_15 : decode cX2_squareWay 15 = .ok (.isub, 1) := by decide +kernel
theorem dX2_squareWay_16 : decode cX2_squareWay 16 = .ok (.istore_n 3, 1) := by decide +kernel
theorem dX2_squareWay_17 : decode cX2_squareWay 17 = .ok (.aload_n 0, 1) := by decide +kernel
theorem dX2_squareWay_18 : decode cX2_squareWay 18 = .ok (.getfield 48, 3) := by decide +kernel
theorem dX2_squareWay_21 : decode cX2_squareWay 21 = .ok (.iload_n 1, 1) := by decide +kernel
theorem dX2_squareWay_22 : decode cX2_squareWay 22 = .ok (.iaload, 1) := by decide +kernel
theorem dX2_squareWay_23 : decode cX2_squareWay 23 = .ok (.aload_n 0, 1) := by decide +kernel
theorem dX2_squareWay_24 : decode cX2_squareWay 24 = .ok (.getfield 72, 3) := by decide +kernel
theorem dX2_squareWay_27 : decode cX2_squareWay 27 = .ok (.getfield 120, 3) := by decide +kernel
theorem dX2_squareWay_30 : decode cX2_squareWay 30 = .ok (.iload_n 2, 1) := by decide +kernel
theorem dX2_squareWay_31 : decode cX2_squareWay 31 = .ok (.iaload, 1) := by decide +kernel
theorem dX2_squareWay_32 : decode cX2_squareWay 32 = .ok (.isub, 1) := by decide +kernel
theorem dX2_squareWay_33 : decode cX2_squareWay 33 = .ok (.istore 4, 2) := by decide +kernel
theorem dX2_squareWay_35 : decode cX2_squareWay 35 = .ok (.iload_n 3, 1) := by decide +kernel
theorem dX2_squareWay_36 : decode cX2_squareWay 36 = .ok (.iload_n 3, 1) := by decide +kernel
theorem dX2_squareWay_37 : decode cX2_squareWay 37 = .ok (.imul, 1) := by decide +kernel
theorem dX2_squareWay_38 : decode cX2_squareWay 38 = .ok (.iload 4, 2) := by decide +kernel
theorem dX2_squareWay_40 : decode cX2_squareWay 40 = .ok (.iload 4, 2) := by decide +kernel
theorem dX2_squareWay_42 : decode cX2_squareWay 42 = .ok (.imul, 1) := by decide +kernel
theorem dX2_squareWay_43 : decode cX2_squareWay 43 = .ok (.iadd, 1) := by decide +kernel
theorem dX2_squareWay_44 : decode cX2_squareWay 44 = .ok (.ireturn, 1) := by decide +kernel
theorem dX2_standing_0 : decode cX2_standing 0 = .ok (.aload_n 0, 1) := by decide +kernel
theorem dX2_standing_1 : decode cX2_standing 1 = .ok (.getfield 18, 3) := by decide +kernel
theorem dX2_standing_4 : decode cX2_standing 4 = .ok (.ifCond .eq 18, 3) := by decide +kernel
theorem dX2_standing_7 : decode cX2_standing 7 = .ok (.aload_n 0, 1) := by decide +kernel
theorem dX2_standing_8 : decode cX2_standing 8 = .ok (.getfield 35, 3) := by decide +kernel
theorem dX2_standing_11 : decode cX2_standing 11 = .ok (.iload_n 1, 1) := by decide +kernel
theorem dX2_standing_12 : decode cX2_standing 12 = .ok (.invokestatic 121, 3) := by decide +kernel
theorem dX2_standing_15 : decode cX2_standing 15 = .ok (.ifCond .eq 7, 3) := by decide +kernel
theorem dX2_standing_18 : decode cX2_standing 18 = .ok (.lconst 1, 1) := by decide +kernel
theorem dX2_standing_19 : decode cX2_standing 19 = .ok (.goto 4, 3) := by decide +kernel
theorem dX2_standing_22 : decode cX2_standing 22 = .ok (.lconst 0, 1) := by decide +kernel
theorem dX2_standing_23 : decode cX2_standing 23 = .ok (.lstore_n 3, 1) := by decide +kernel
theorem dX2_standing_24 : decode cX2_standing 24 = .ok (.lload_n 3, 1) := by decide +kernel
theorem dX2_standing_25 : decode cX2_standing 25 = .ok (.iconst 2, 1) := by decide +kernel
theorem dX2_standing_26 : decode cX2_standing 26 = .ok (.lshl, 1) := by decide +kernel
theorem dX2_standing_27 : decode cX2_standing 27 = .ok (.aload_n 0, 1) := by decide +kernel
theorem dX2_standing_28 : decode cX2_standing 28 = .ok (.iload_n 1, 1) := by decide +kernel
theorem dX2_standing_29 : decode cX2_standing 29 = .ok (.iload_n 2, 1) := by decide +kernel
theorem dX2_standing_30 : decode cX2_standing 30 = .ok (.invokevirtual 125, 3) := by decide +kernel
theorem dX2_standing_33 : decode cX2_standing 33 = .ok (.i2l, 1) := by decide +kernel
theorem dX2_standing_34 : decode cX2_standing 34 = .ok (.lor, 1) := by decide +kernel
theorem dX2_standing_35 : decode cX2_standing 35 = .ok (.lstore_n 3, 1) := by decide +kernel
theorem dX2_standing_36 : decode cX2_standing 36 = .ok (.lload_n 3, 1) := by decide +kernel
theorem dX2_standing_37 : decode cX2_standing 37 = .ok (.bipush 15, 2) := by decide +kernel
theorem dX2_standing_39 : decode cX2_standing 39 = .ok (.lshl, 1) := by decide +kernel
theorem dX2_standing_40 : decode cX2_standing 40 = .ok (.aload_n 0, 1) := by decide +kernel
theorem dX2_standing_41 : decode cX2_standing 41 = .ok (.iload_n 1, 1) := by decide +kernel
theorem dX2_standing_42 : decode cX2_standing 42 = .ok (.iload_n 2, 1) := by decide +kernel
theorem dX2_standing_43 : decode cX2_standing 43 = .ok (.invokevirtual 128, 3) := by decide +kernel
theorem dX2_standing_46 : decode cX2_standing 46 = .ok (.i2l, 1) := by decide +kernel
theorem dX2_standing_47 : decode cX2_standing 47 = .ok (.lor, 1) := by decide +kernel
theorem dX2_standing_48 : decode cX2_standing 48 = .ok (.lstore_n 3, 1) := by decide +kernel
theorem dX2_standing_49 : decode cX2_standing 49 = .ok (.lload_n 3, 1) := by decide +kernel
theorem dX2_standing_50 : decode cX2_standing 50 = .ok (.bipush 14, 2) := by decide +kernel
theorem dX2_standing_52 : decode cX2_standing 52 = .ok (.lshl, 1) := by decide +kernel
theorem dX2_standing_53 : decode cX2_standing 53 = .ok (.aload_n 0, 1) := by decide +kernel
theorem dX2_standing_54 : decode cX2_standing 54 = .ok (.getfield 54, 3) := by decide +kernel
theorem dX2_standing_57 : decode cX2_standing 57 = .ok (.iload_n 1, 1) := by decide +kernel
theorem dX2_standing_58 : decode cX2_standing 58 = .ok (.iaload, 1) := by decide +kernel
theorem dX2_standing_59 : decode cX2_standing 59 = .ok (.i2l, 1) := by decide +kernel
theorem dX2_standing_60 : decode cX2_standing 60 = .ok (.lor, 1) := by decide +kernel
theorem dX2_standing_61 : decode cX2_standing 61 = .ok (.lstore_n 3, 1) := by decide +kernel
theorem dX2_standing_62 : decode cX2_standing 62 = .ok (.lload_n 3, 1) := by decide +kernel
theorem dX2_standing_63 : decode cX2_standing 63 = .ok (.bipush 6, 2) := by decide +kernel
theorem dX2_standing_65 : decode cX2_standing 65 = .ok (.lshl, 1) := by decide +kernel
theorem dX2_standing_66 : decode cX2_standing 66 = .ok (.iload_n 1, 1) := by decide +kernel
theorem dX2_standing_67 : decode cX2_standing 67 = .ok (.i2l, 1) := by decide +kernel
theorem dX2_standing_68 : decode cX2_standing 68 = .ok (.lor, 1) := by decide +kernel
theorem dX2_standing_69 : decode cX2_standing 69 = .ok (.lreturn, 1) := by decide +kernel
theorem dX2_firstOf_0 : decode cX2_firstOf 0 = .ok (.iconst (-1), 1) := by decide +kernel
theorem dX2_firstOf_1 : decode cX2_firstOf 1 = .ok (.istore 4, 2) := by decide +kernel
theorem dX2_firstOf_3 : decode cX2_firstOf 3 = .ok (.lconst 0, 1) := by decide +kernel
theorem dX2_firstOf_4 : decode cX2_firstOf 4 = .ok (.lstore 5, 2) := by decide +kernel
theorem dX2_firstOf_6 : decode cX2_firstOf 6 = .ok (.iconst 0, 1) := by decide +kernel
theorem dX2_firstOf_7 : decode cX2_firstOf 7 = .ok (.istore 7, 2) := by decide +kernel
theorem dX2_firstOf_9 : decode cX2_firstOf 9 = .ok (.iload 7, 2) := by decide +kernel
theorem dX2_firstOf_11 : decode cX2_firstOf 11 = .ok (.aload_n 0, 1) := by decide +kernel
theorem dX2_firstOf_12 : decode cX2_firstOf 12 = .ok (.getfield 9, 3) := by decide +kernel
theorem dX2_firstOf_15 : decode cX2_firstOf 15 = .ok (.if_icmp .ge 49, 3) := by decide +kernel
theorem dX2_firstOf_18 : decode cX2_firstOf 18 = .ok (.lload_n 1, 1) := by decide +kernel
theorem dX2_firstOf_19 : decode cX2_firstOf 19 = .ok (.iload 7, 2) := by decide +kernel
theorem dX2_firstOf_21 : decode cX2_firstOf 21 = .ok (.invokestatic 121, 3) := by decide +kernel
theorem dX2_firstOf_24 : decode cX2_firstOf 24 = .ok (.ifCond .eq 34, 3) := by decide +kernel
theorem dX2_firstOf_27 : decode cX2_firstOf 27 = .ok (.aload_n 0, 1) := by decide +kernel
theorem dX2_firstOf_28 : decode cX2_firstOf 28 = .ok (.iload 7, 2) := by decide +kernel
theorem dX2_firstOf_30 : decode cX2_firstOf 30 = .ok (.iload_n 3, 1) := by decide +kernel
theorem dX2_firstOf_31 : decode cX2_firstOf 31 = .ok (.invokevirtual 131, 3) := by decide +kernel
theorem dX2_firstOf_34 : decode cX2_firstOf 34 = .ok (.lstore 8, 2) := by decide +kernel
theorem dX2_firstOf_36 : decode cX2_firstOf 36 = .ok (.iload 4, 2) := by decide +kernel
theorem dX2_firstOf_38 : decode cX2_firstOf 38 = .ok (.iconst (-1), 1) := by decide +kernel
theorem dX2_firstOf_39 : decode cX2_firstOf 39 = .ok (.if_icmp .eq 11, 3) := by decide +kernel
theorem dX2_firstOf_42 : decode cX2_firstOf 42 = .ok (.lload 8, 2) := by decide +kernel
theorem dX2_firstOf_44 : decode cX2_firstOf 44 = .ok (.lload 5, 2) := by decide +kernel
theorem dX2_firstOf_46 : decode cX2_firstOf 46 = .ok (.lcmp, 1) := by decide +kernel
theorem dX2_firstOf_47 : decode cX2_firstOf 47 = .ok (.ifCond .ge 11, 3) := by decide +kernel
theorem dX2_firstOf_50 : decode cX2_firstOf 50 = .ok (.iload 7, 2) := by decide +kernel
theorem dX2_firstOf_52 : decode cX2_firstOf 52 = .ok (.istore 4, 2) := by decide +kernel
theorem dX2_firstOf_54 : decode cX2_firstOf 54 = .ok (.lload 8, 2) := by decide +kernel
theorem dX2_firstOf_56 : decode cX2_firstOf 56 = .ok (.lstore 5, 2) := by decide +kernel
theorem dX2_firstOf_58 : decode cX2_firstOf 58 = .ok (.iinc 7 1, 3) := by decide +kernel
theorem dX2_firstOf_61 : decode cX2_firstOf 61 = .ok (.goto (-52), 3) := by decide +kernel
theorem dX2_firstOf_64 : decode cX2_firstOf 64 = .ok (.iload 4, 2) := by decide +kernel
theorem dX2_firstOf_66 : decode cX2_firstOf 66 = .ok (.ireturn, 1) := by decide +kernel
theorem dX2_lastOf_0 : decode cX2_lastOf 0 = .ok (.iconst (-1), 1) := by decide +kernel
theorem dX2_lastOf_1 : decode cX2_lastOf 1 = .ok (.istore 4, 2) := by decide +kernel
theorem dX2_lastOf_3 : decode cX2_lastOf 3 = .ok (.lconst 0, 1) := by decide +kernel
theorem dX2_lastOf_4 : decode cX2_lastOf 4 = .ok (.lstore 5, 2) := by decide +kernel
theorem dX2_lastOf_6 : decode cX2_lastOf 6 = .ok (.iconst 0, 1) := by decide +kernel
theorem dX2_lastOf_7 : decode cX2_lastOf 7 = .ok (.istore 7, 2) := by decide +kernel
theorem dX2_lastOf_9 : decode cX2_lastOf 9 = .ok (.iload 7, 2) := by decide +kernel
theorem dX2_lastOf_11 : decode cX2_lastOf 11 = .ok (.aload_n 0, 1) := by decide +kernel
theorem dX2_lastOf_12 : decode cX2_lastOf 12 = .ok (.getfield 9, 3) := by decide +kernel
theorem dX2_lastOf_15 : decode cX2_lastOf 15 = .ok (.if_icmp .ge 49, 3) := by decide +kernel
theorem dX2_lastOf_18 : decode cX2_lastOf 18 = .ok (.lload_n 1, 1) := by decide +kernel
theorem dX2_lastOf_19 : decode cX2_lastOf 19 = .ok (.iload 7, 2) := by decide +kernel
theorem dX2_lastOf_21 : decode cX2_lastOf 21 = .ok (.invokestatic 121, 3) := by decide +kernel
theorem dX2_lastOf_24 : decode cX2_lastOf 24 = .ok (.ifCond .eq 34, 3) := by decide +kernel
theorem dX2_lastOf_27 : decode cX2_lastOf 27 = .ok (.aload_n 0, 1) := by decide +kernel
theorem dX2_lastOf_28 : decode cX2_lastOf 28 = .ok (.iload 7, 2) := by decide +kernel
theorem dX2_lastOf_30 : decode cX2_lastOf 30 = .ok (.iload_n 3, 1) := by decide +kernel
theorem dX2_lastOf_31 : decode cX2_lastOf 31 = .ok (.invokevirtual 131, 3) := by decide +kernel
theorem dX2_lastOf_34 : decode cX2_lastOf 34 = .ok (.lstore 8, 2) := by decide +kernel
theorem dX2_lastOf_36 : decode cX2_lastOf 36 = .ok (.iload 4, 2) := by decide +kernel
theorem dX2_lastOf_38 : decode cX2_lastOf 38 = .ok (.iconst (-1), 1) := by decide +kernel
theorem dX2_lastOf_39 : decode cX2_lastOf 39 = .ok (.if_icmp .eq 11, 3) := by decide +kernel
theorem dX2_lastOf_42 : decode cX2_lastOf 42 = .ok (.lload 8, 2) := by decide +kernel
theorem dX2_lastOf_44 : decode cX2_lastOf 44 = .ok (.lload 5, 2) := by decide +kernel
theorem dX2_lastOf_46 : decode cX2_lastOf 46 = .ok (.lcmp, 1) := by decide +kernel
theorem dX2_lastOf_47 : decode cX2_lastOf 47 = .ok (.ifCond .le 11, 3) := by decide +kernel
theorem dX2_lastOf_50 : decode cX2_lastOf 50 = .ok (.iload 7, 2) := by decide +kernel
theorem dX2_lastOf_52 : decode cX2_lastOf 52 = .ok (.istore 4, 2) := by decide +kernel
theorem dX2_lastOf_54 : decode cX2_lastOf 54 = .ok (.lload 8, 2) := by decide +kernel
theorem dX2_lastOf_56 : decode cX2_lastOf 56 = .ok (.lstore 5, 2) := by decide +kernel
theorem dX2_lastOf_58 : decode cX2_lastOf 58 = .ok (.iinc 7 1, 3) := by decide +kernel
theorem dX2_lastOf_61 : decode cX2_lastOf 61 = .ok (.goto (-52), 3) := by decide +kernel
theorem dX2_lastOf_64 : decode cX2_lastOf 64 = .ok (.iload 4, 2) := by decide +kernel
theorem dX2_lastOf_66 : decode cX2_lastOf 66 = .ok (.ireturn, 1) := by decide +kernel
theorem dX2_aheadOf_0 : decode cX2_aheadOf 0 = .ok (.aload_n 0, 1) := by decide +kernel
theorem dX2_aheadOf_1 : decode cX2_aheadOf 1 = .ok (.iload_n 1, 1) := by decide +kernel
theorem dX2_aheadOf_2 : decode cX2_aheadOf 2 = .ok (.iload 4, 2) := by decide +kernel
theorem dX2_aheadOf_4 : decode cX2_aheadOf 4 = .ok (.invokevirtual 131, 3) := by decide +kernel
theorem dX2_aheadOf_7 : decode cX2_aheadOf 7 = .ok (.lstore 5, 2) := by decide +kernel
theorem dX2_aheadOf_9 : decode cX2_aheadOf 9 = .ok (.iconst 0, 1) := by decide +kernel
theorem dX2_aheadOf_10 : decode cX2_aheadOf 10 = .ok (.istore 7, 2) := by decide +kernel
theorem dX2_aheadOf_12 : decode cX2_aheadOf 12 = .ok (.iconst 0, 1) := by decide +kernel
theorem dX2_aheadOf_13 : decode cX2_aheadOf 13 = .ok (.istore 8, 2) := by decide +kernel
theorem dX2_aheadOf_15 : decode cX2_aheadOf 15 = .ok (.iload 8, 2) := by decide +kernel
theorem dX2_aheadOf_17 : decode cX2_aheadOf 17 = .ok (.aload_n 0, 1) := by decide +kernel
theorem dX2_aheadOf_18 : decode cX2_aheadOf 18 = .ok (.getfield 9, 3) := by decide +kernel
theorem dX2_aheadOf_21 : decode cX2_aheadOf 21 = .ok (.if_icmp .ge 35, 3) := by decide +kernel
theorem dX2_aheadOf_24 : decode cX2_aheadOf 24 = .ok (.lload_n 2, 1) := by decide +kernel
theorem dX2_aheadOf_25 : decode cX2_aheadOf 25 = .ok (.iload 8, 2) := by decide +kernel
theorem dX2_aheadOf_27 : decode cX2_aheadOf 27 = .ok (.invokestatic 121, 3) := by decide +kernel
theorem dX2_aheadOf_30 : decode cX2_aheadOf 30 = .ok (.ifCond .eq 20, 3) := by decide +kernel
theorem dX2_aheadOf_33 : decode cX2_aheadOf 33 = .ok (.aload_n 0, 1) := by decide +kernel
theorem dX2_aheadOf_34 : decode cX2_aheadOf 34 = .ok (.iload 8, 2) := by decide +kernel
theorem dX2_aheadOf_36 : decode cX2_aheadOf 36 = .ok (.iload 4, 2) := by decide +kernel
theorem dX2_aheadOf_38 : decode cX2_aheadOf 38 = .ok (.invokevirtual 131, 3) := by decide +kernel
theorem dX2_aheadOf_41 : decode cX2_aheadOf 41 = .ok (.lload 5, 2) := by decide +kernel
theorem dX2_aheadOf_43 : decode cX2_aheadOf 43 = .ok (.lcmp, 1) := by decide +kernel
theorem dX2_aheadOf_44 : decode cX2_aheadOf 44 = .ok (.ifCond .ge 6, 3) := by decide +kernel
theorem dX2_aheadOf_47 : decode cX2_aheadOf 47 = .ok (.iinc 7 1, 3) := by decide +kernel
theorem dX2_aheadOf_50 : decode cX2_aheadOf 50 = .ok (.iinc 8 1, 3) := by decide +kernel
theorem dX2_aheadOf_53 : decode cX2_aheadOf 53 = .ok (.goto (-38), 3) := by decide +kernel
theorem dX2_aheadOf_56 : decode cX2_aheadOf 56 = .ok (.iload 7, 2) := by decide +kernel
theorem dX2_aheadOf_58 : decode cX2_aheadOf 58 = .ok (.ireturn, 1) := by decide +kernel
theorem dX2_orderedOf_0 : decode cX2_orderedOf 0 = .ok (.iconst 0, 1) := by decide +kernel
theorem dX2_orderedOf_1 : decode cX2_orderedOf 1 = .ok (.istore 5, 2) := by decide +kernel
theorem dX2_orderedOf_3 : decode cX2_orderedOf 3 = .ok (.iload 5, 2) := by decide +kernel
theorem dX2_orderedOf_5 : decode cX2_orderedOf 5 = .ok (.aload_n 0, 1) := by decide +kernel
theorem dX2_orderedOf_6 : decode cX2_orderedOf 6 = .ok (.getfield 9, 3) := by decide +kernel
theorem dX2_orderedOf_9 : decode cX2_orderedOf 9 = .ok (.if_icmp .ge 34, 3) := by decide +kernel
theorem dX2_orderedOf_12 : decode cX2_orderedOf 12 = .ok (.lload_n 1, 1) := by decide +kernel
theorem dX2_orderedOf_13 : decode cX2_orderedOf 13 = .ok (.iload 5, 2) := by decide +kernel
theorem dX2_orderedOf_15 : decode cX2_orderedOf 15 = .ok (.invokestatic 121, 3) := by decide +kernel
theorem dX2_orderedOf_18 : decode cX2_orderedOf 18 = .ok (.ifCond .eq 19, 3) := by decide +kernel
theorem dX2_orderedOf_21 : decode cX2_orderedOf 21 = .ok (.aload_n 0, 1) := by decide +kernel
theorem dX2_orderedOf_22 : decode cX2_orderedOf 22 = .ok (.iload 5, 2) := by decide +kernel
theorem dX2_orderedOf_24 : decode cX2_orderedOf 24 = .ok (.lload_n 1, 1) := by decide +kernel
theorem dX2_orderedOf_25 : decode cX2_orderedOf 25 = .ok (.iload_n 3, 1) := by decide +kernel
theorem dX2_orderedOf_26 : decode cX2_orderedOf 26 = .ok (.invokevirtual 135, 3) := by decide +kernel
theorem dX2_orderedOf_29 : decode cX2_orderedOf 29 = .ok (.iload 4, 2) := by decide +kernel
theorem dX2_orderedOf_31 : decode cX2_orderedOf 31 = .ok (.if_icmp .ne 6, 3) := by decide +kernel
theorem dX2_orderedOf_34 : decode cX2_orderedOf 34 = .ok (.iload 5, 2) := by decide +kernel
theorem dX2_orderedOf_36 : decode cX2_orderedOf 36 = .ok (.ireturn, 1) := by decide +kernel
theorem dX2_orderedOf_37 : decode cX2_orderedOf 37 = .ok (.iinc 5 1, 3) := by decide +kernel
theorem dX2_orderedOf_40 : decode cX2_orderedOf 40 = .ok (.goto (-37), 3) := by decide +kernel
theorem dX2_orderedOf_43 : decode cX2_orderedOf 43 = .ok (.iconst (-1), 1) := by decide +kernel
theorem dX2_orderedOf_44 : decode cX2_orderedOf 44 = .ok (.ireturn, 1) := by decide +kernel
theorem dX2_holdersOf_0 : decode cX2_holdersOf 0 = .ok (.lconst 0, 1) := by decide +kernel
theorem dX2_holdersOf_1 : decode cX2_holdersOf 1 = .ok (.lstore_n 2, 1) := by decide +kernel
theorem dX2_holdersOf_2 : decode cX2_holdersOf 2 = .ok (.iconst 0, 1) := by decide +kernel
theorem dX2_holdersOf_3 : decode cX2_holdersOf 3 = .ok (.istore 4, 2) := by decide +kernel
theorem dX2_holdersOf_5 : decode cX2_holdersOf 5 = .ok (.iload 4, 2) := by decide +kernel
theorem dX2_holdersOf_7 : decode cX2_holdersOf 7 = .ok (.aload_n 0, 1) := by decide +kernel
theorem dX2_holdersOf_8 : decode cX2_holdersOf 8 = .ok (.getfield 9, 3) := by decide +kernel
theorem dX2_holdersOf_11 : decode cX2_holdersOf 11 = .ok (.if_icmp .ge 27, 3) := by decide +kernel
theorem dX2_holdersOf_14 : decode cX2_holdersOf 14 = .ok (.aload_n 0, 1) := by decide +kernel
theorem dX2_holdersOf_15 : decode cX2_holdersOf 15 = .ok (.getfield 60, 3) := by decide +kernel
theorem dX2_holdersOf_18 : decode cX2_holdersOf 18 = .ok (.iload 4, 2) := by decide +kernel
theorem dX2_holdersOf_20 : decode cX2_holdersOf 20 = .ok (.iaload, 1) := by decide +kernel
theorem dX2_holdersOf_21 : decode cX2_holdersOf 21 = .ok (.iload_n 1, 1) := by decide +kernel
theorem dX2_holdersOf_22 : decode cX2_holdersOf 22 = .ok (.if_icmp .ne 10, 3) := by decide +kernel
theorem dX2_holdersOf_25 : decode cX2_holdersOf 25 = .ok (.lload_n 2, 1) := by decide +kernel
theorem dX2_holdersOf_26 : decode cX2_holdersOf 26 = .ok (.lconst 1, 1) := by decide +kernel
theorem dX2_holdersOf_27 : decode cX2_holdersOf 27 = .ok (.iload 4, 2) := by decide +kernel
theorem dX2_holdersOf_29 : decode cX2_holdersOf 29 = .ok (.lshl, 1) := by decide +kernel
theorem dX2_holdersOf_30 : decode cX2_holdersOf 30 = .ok (.lor, 1) := by decide +kernel
theorem dX2_holdersOf_31 : decode cX2_holdersOf 31 = .ok (.lstore_n 2, 1) := by decide +kernel
theorem dX2_holdersOf_32 : decode cX2_holdersOf 32 = .ok (.iinc 4 1, 3) := by decide +kernel
theorem dX2_holdersOf_35 : decode cX2_holdersOf 35 = .ok (.goto (-30), 3) := by decide +kernel
theorem dX2_holdersOf_38 : decode cX2_holdersOf 38 = .ok (.lload_n 2, 1) := by decide +kernel
theorem dX2_holdersOf_39 : decode cX2_holdersOf 39 = .ok (.lreturn, 1) := by decide +kernel
theorem dX2_placedOnes_0 : decode cX2_placedOnes 0 = .ok (.lconst 0, 1) := by decide +kernel
theorem dX2_placedOnes_1 : decode cX2_placedOnes 1 = .ok (.lstore_n 1, 1) := by decide +kernel
theorem dX2_placedOnes_2 : decode cX2_placedOnes 2 = .ok (.iconst 0, 1) := by decide +kernel
theorem dX2_placedOnes_3 : decode cX2_placedOnes 3 = .ok (.istore_n 3, 1) := by decide +kernel
theorem dX2_placedOnes_4 : decode cX2_placedOnes 4 = .ok (.iload_n 3, 1) := by decide +kernel
theorem dX2_placedOnes_5 : decode cX2_placedOnes 5 = .ok (.aload_n 0, 1) := by decide +kernel
theorem dX2_placedOnes_6 : decode cX2_placedOnes 6 = .ok (.getfield 9, 3) := by decide +kernel
theorem dX2_placedOnes_9 : decode cX2_placedOnes 9 = .ok (.if_icmp .ge 25, 3) := by decide +kernel
theorem dX2_placedOnes_12 : decode cX2_placedOnes 12 = .ok (.aload_n 0, 1) := by decide +kernel
theorem dX2_placedOnes_13 : decode cX2_placedOnes 13 = .ok (.getfield 60, 3) := by decide +kernel
theorem dX2_placedOnes_16 : decode cX2_placedOnes 16 = .ok (.iload_n 3, 1) := by decide +kernel
theorem dX2_placedOnes_17 : decode cX2_placedOnes 17 = .ok (.iaload, 1) := by decide +kernel
theorem dX2_placedOnes_18 : decode cX2_placedOnes 18 = .ok (.iconst (-1), 1) := by decide +kernel
theorem dX2_placedOnes_19 : decode cX2_placedOnes 19 = .ok (.if_icmp .eq 9, 3) := by decide +kernel
theorem dX2_placedOnes_22 : decode cX2_placedOnes 22 = .ok (.lload_n 1, 1) := by decide +kernel
theorem dX2_placedOnes_23 : decode cX2_placedOnes 23 = .ok (.lconst 1, 1) := by decide +kernel
theorem dX2_placedOnes_24 : decode cX2_placedOnes 24 = .ok (.iload_n 3, 1) := by decide +kernel
theorem dX2_placedOnes_25 : decode cX2_placedOnes 25 = .ok (.lshl, 1) := by decide +kernel
theorem dX2_placedOnes_26 : decode cX2_placedOnes 26 = .ok (.lor, 1) := by decide +kernel
theorem dX2_placedOnes_27 : decode cX2_placedOnes 27 = .ok (.lstore_n 1, 1) := by decide +kernel
theorem dX2_placedOnes_28 : decode cX2_placedOnes 28 = .ok (.iinc 3 1, 3) := by decide +kernel
theorem dX2_placedOnes_31 : decode cX2_placedOnes 31 = .ok (.goto (-27), 3) := by decide +kernel
theorem dX2_placedOnes_34 : decode cX2_placedOnes 34 = .ok (.lload_n 1, 1) := by decide +kernel
theorem dX2_placedOnes_35 : decode cX2_placedOnes 35 = .ok (.lreturn, 1) := by decide +kernel
theorem dX2_gotWish_0 : decode cX2_gotWish 0 = .ok (.aload_n 0, 1) := by decide +kernel
theorem dX2_gotWish_1 : decode cX2_gotWish 1 = .ok (.getfield 57, 3) := by decide +kernel
theorem dX2_gotWish_4 : decode cX2_gotWish 4 = .ok (.iload_n 1, 1) := by decide +kernel
theorem dX2_gotWish_5 : decode cX2_gotWish 5 = .ok (.iaload, 1) := by decide +kernel
theorem dX2_gotWish_6 : decode cX2_gotWish 6 = .ok (.aload_n 0, 1) := by decide +kernel
theorem dX2_gotWish_7 : decode cX2_gotWish 7 = .ok (.getfield 60, 3) := by decide +kernel
theorem dX2_gotWish_10 : decode cX2_gotWish 10 = .ok (.iload_n 1, 1) := by decide +kernel
theorem dX2_gotWish_11 : decode cX2_gotWish 11 = .ok (.iaload, 1) := by decide +kernel
theorem dX2_gotWish_12 : decode cX2_gotWish 12 = .ok (.invokestatic 139, 3) := by decide +kernel
theorem dX2_gotWish_15 : decode cX2_gotWish 15 = .ok (.ireturn, 1) := by decide +kernel
theorem dX2_prefers_0 : decode cX2_prefers 0 = .ok (.aload_n 0, 1) := by decide +kernel
theorem dX2_prefers_1 : decode cX2_prefers 1 = .ok (.getfield 57, 3) := by decide +kernel
theorem dX2_prefers_4 : decode cX2_prefers 4 = .ok (.iload_n 1, 1) := by decide +kernel
theorem dX2_prefers_5 : decode cX2_prefers 5 = .ok (.iaload, 1) := by decide +kernel
theorem dX2_prefers_6 : decode cX2_prefers 6 = .ok (.iload_n 2, 1) := by decide +kernel
theorem dX2_prefers_7 : decode cX2_prefers 7 = .ok (.invokestatic 139, 3) := by decide +kernel
theorem dX2_prefers_10 : decode cX2_prefers 10 = .ok (.istore_n 3, 1) := by decide +kernel
theorem dX2_prefers_11 : decode cX2_prefers 11 = .ok (.aload_n 0, 1) := by decide +kernel
theorem dX2_prefers_12 : decode cX2_prefers 12 = .ok (.getfield 57, 3) := by decide +kernel
theorem dX2_prefers_15 : decode cX2_prefers 15 = .ok (.iload_n 1, 1) := by decide +kernel
theorem dX2_prefers_16 : decode cX2_prefers 16 = .ok (.iaload, 1) := by decide +kernel
theorem dX2_prefers_17 : decode cX2_prefers 17 = .ok (.aload_n 0, 1) := by decide +kernel
theorem dX2_prefers_18 : decode cX2_prefers 18 = .ok (.getfield 60, 3) := by decide +kernel
theorem dX2_prefers_21 : decode cX2_prefers 21 = .ok (.iload_n 1, 1) := by decide +kernel
theorem dX2_prefers_22 : decode cX2_prefers 22 = .ok (.iaload, 1) := by decide +kernel
theorem dX2_prefers_23 : decode cX2_prefers 23 = .ok (.invokestatic 139, 3) := by decide +kernel
theorem dX2_prefers_26 : decode cX2_prefers 26 = .ok (.istore 4, 2) := by decide +kernel
theorem dX2_prefers_28 : decode cX2_prefers 28 = .ok (.iload_n 3, 1) := by decide +kernel
theorem dX2_prefers_29 : decode cX2_prefers 29 = .ok (.iconst (-1), 1) := by decide +kernel
theorem dX2_prefers_30 : decode cX2_prefers 30 = .ok (.if_icmp .eq 19, 3) := by decide +kernel
theorem dX2_prefers_33 : decode cX2_prefers 33 = .ok (.iload 4, 2) := by decide +kernel
theorem dX2_prefers_35 : decode cX2_prefers 35 = .ok (.iconst (-1), 1) := by decide +kernel
theorem dX2_prefers_36 : decode cX2_prefers 36 = .ok (.if_icmp .eq 9, 3) := by decide +kernel
theorem dX2_prefers_39 : decode cX2_prefers 39 = .ok (.iload_n 3, 1) := by decide +kernel
theorem dX2_prefers_40 : decode cX2_prefers 40 = .ok (.iload 4, 2) := by decide +kernel
theorem dX2_prefers_42 : decode cX2_prefers 42 = .ok (.if_icmp .ge 7, 3) := by decide +kernel
theorem dX2_prefers_45 : decode cX2_prefers 45 = .ok (.iconst 1, 1) := by decide +kernel
theorem dX2_prefers_46 : decode cX2_prefers 46 = .ok (.goto 4, 3) := by decide +kernel
theorem dX2_prefers_49 : decode cX2_prefers 49 = .ok (.iconst 0, 1) := by decide +kernel
theorem dX2_prefers_50 : decode cX2_prefers 50 = .ok (.ireturn, 1) := by decide +kernel
theorem dX2_waits_0 : decode cX2_waits 0 = .ok (.aload_n 0, 1) := by decide +kernel
theorem dX2_waits_1 : decode cX2_waits 1 = .ok (.getfield 22, 3) := by decide +kernel
theorem dX2_waits_4 : decode cX2_waits 4 = .ok (.ifCond .eq 27, 3) := by decide +kernel
theorem dX2_waits_7 : decode cX2_waits 7 = .ok (.aload_n 0, 1) := by decide +kernel
theorem dX2_waits_8 : decode cX2_waits 8 = .ok (.getfield 38, 3) := by decide +kernel
theorem dX2_waits_11 : decode cX2_waits 11 = .ok (.iload_n 1, 1) := by decide +kernel
theorem dX2_waits_12 : decode cX2_waits 12 = .ok (.invokestatic 121, 3) := by decide +kernel
theorem dX2_waits_15 : decode cX2_waits 15 = .ok (.ifCond .ne 16, 3) := by decide +kernel
theorem dX2_waits_18 : decode cX2_waits 18 = .ok (.aload_n 0, 1) := by decide +kernel
theorem dX2_waits_19 : decode cX2_waits 19 = .ok (.iload_n 1, 1) := by decide +kernel
theorem dX2_waits_20 : decode cX2_waits 20 = .ok (.iload_n 2, 1) := by decide +kernel
theorem dX2_waits_21 : decode cX2_waits 21 = .ok (.invokevirtual 142, 3) := by decide +kernel
theorem dX2_waits_24 : decode cX2_waits 24 = .ok (.ifCond .eq 7, 3) := by decide +kernel
theorem dX2_waits_27 : decode cX2_waits 27 = .ok (.iconst 1, 1) := by decide +kernel
theorem dX2_waits_28 : decode cX2_waits 28 = .ok (.goto 4, 3) := by decide +kernel
theorem dX2_waits_31 : decode cX2_waits 31 = .ok (.iconst 0, 1) := by decide +kernel
theorem dX2_waits_32 : decode cX2_waits 32 = .ok (.ireturn, 1) := by decide +kernel
theorem dX2_waitersOf_0 : decode cX2_waitersOf 0 = .ok (.lconst 0, 1) := by decide +kernel
theorem dX2_waitersOf_1 : decode cX2_waitersOf 1 = .ok (.lstore_n 2, 1) := by decide +kernel
theorem dX2_waitersOf_2 : decode cX2_waitersOf 2 = .ok (.iconst 0, 1) := by decide +kernel
theorem dX2_waitersOf_3 : decode cX2_waitersOf 3 = .ok (.istore 4, 2) := by decide +kernel
theorem dX2_waitersOf_5 : decode cX2_waitersOf 5 = .ok (.iload 4, 2) := by decide +kernel
theorem dX2_waitersOf_7 : decode cX2_waitersOf 7 = .ok (.aload_n 0, 1) := by decide +kernel
theorem dX2_waitersOf_8 : decode cX2_waitersOf 8 = .ok (.getfield 9, 3) := by decide +kernel
theorem dX2_waitersOf_11 : decode cX2_waitersOf 11 = .ok (.if_icmp .ge 26, 3) := by decide +kernel
theorem dX2_waitersOf_14 : decode cX2_waitersOf 14 = .ok (.aload_n 0, 1) := by decide +kernel
theorem dX2_waitersOf_15 : decode cX2_waitersOf 15 = .ok (.iload 4, 2) := by decide +kernel
theorem dX2_waitersOf_17 : decode cX2_waitersOf 17 = .ok (.iload_n 1, 1) := by decide +kernel
theorem dX2_waitersOf_18 : decode cX2_waitersOf 18 = .ok (.invokevirtual 146, 3) := by decide +kernel
theorem dX2_waitersOf_21 : decode cX2_waitersOf 21 = .ok (.ifCond .eq 10, 3) := by decide +kernel
theorem dX2_waitersOf_24 : decode cX2_waitersOf 24 = .ok (.lload_n 2, 1) := by decide +kernel
theorem dX2_waitersOf_25 : decode cX2_waitersOf 25 = .ok (.lconst 1, 1) := by decide +kernel
theorem dX2_waitersOf_26 : decode cX2_waitersOf 26 = .ok (.iload 4, 2) := by decide +kernel
theorem dX2_waitersOf_28 : decode cX2_waitersOf 28 = .ok (.lshl, 1) := by decide +kernel
theorem dX2_waitersOf_29 : decode cX2_waitersOf 29 = .ok (.lor, 1) := by decide +kernel
theorem dX2_waitersOf_30 : decode cX2_waitersOf 30 = .ok (.lstore_n 2, 1) := by decide +kernel
theorem dX2_waitersOf_31 : decode cX2_waitersOf 31 = .ok (.iinc 4 1, 3) := by decide +kernel
theorem dX2_waitersOf_34 : decode cX2_waitersOf 34 = .ok (.goto (-29), 3) := by decide +kernel
theorem dX2_waitersOf_37 : decode cX2_waitersOf 37 = .ok (.lload_n 2, 1) := by decide +kernel
theorem dX2_waitersOf_38 : decode cX2_waitersOf 38 = .ok (.lreturn, 1) := by decide +kernel
theorem dX2_claimStands_0 : decode cX2_claimStands 0 = .ok (.aload_n 0, 1) := by decide +kernel
theorem dX2_claimStands_1 : decode cX2_claimStands 1 = .ok (.iload_n 1, 1) := by decide +kernel
theorem dX2_claimStands_2 : decode cX2_claimStands 2 = .ok (.iload_n 2, 1) := by decide +kernel
theorem dX2_claimStands_3 : decode cX2_claimStands 3 = .ok (.invokevirtual 146, 3) := by decide +kernel
theorem dX2_claimStands_6 : decode cX2_claimStands 6 = .ok (.ifCond .ne 5, 3) := by decide +kernel
theorem dX2_claimStands_9 : decode cX2_claimStands 9 = .ok (.iconst 0, 1) := by decide +kernel
theorem dX2_claimStands_10 : decode cX2_claimStands 10 = .ok (.ireturn, 1) := by decide +kernel
theorem dX2_claimStands_11 : decode cX2_claimStands 11 = .ok (.aload_n 0, 1) := by decide +kernel
theorem dX2_claimStands_12 : decode cX2_claimStands 12 = .ok (.aload_n 0, 1) := by decide +kernel
theorem dX2_claimStands_13 : decode cX2_claimStands 13 = .ok (.iload_n 2, 1) := by decide +kernel
theorem dX2_claimStands_14 : decode cX2_claimStands 14 = .ok (.invokevirtual 149, 3) := by decide +kernel
theorem dX2_claimStands_17 : decode cX2_claimStands 17 = .ok (.aload_n 0, 1) := by decide +kernel
theorem dX2_claimStands_18 : decode cX2_claimStands 18 = .ok (.getfield 41, 3) := by decide +kernel
theorem dX2_claimStands_21 : decode cX2_claimStands 21 = .ok (.ldc2_w 153, 3) := by decide +kernel
theorem dX2_claimStands_24 : decode cX2_claimStands 24 = .ok (.lxor, 1) := by decide +kernel
theorem dX2_claimStands_25 : decode cX2_claimStands 25 = .ok (.land, 1) := by decide +kernel
theorem dX2_claimStands_26 : decode cX2_claimStands 26 = .ok (.iload_n 2, 1) := by decide +kernel
theorem dX2_claimStands_27 : decode cX2_claimStands 27 = .ok (.invokevirtual 155, 3) := by decide +kernel
theorem dX2_claimStands_30 : decode cX2_claimStands 30 = .ok (.istore_n 3, 1) := by decide +kernel
theorem dX2_claimStands_31 : decode cX2_claimStands 31 = .ok (.iload_n 3, 1) := by decide +kernel
theorem dX2_claimStands_32 : decode cX2_claimStands 32 = .ok (.iconst (-1), 1) := by decide +kernel
theorem dX2_claimStands_33 : decode cX2_claimStands 33 = .ok (.if_icmp .eq 23, 3) := by decide +kernel
theorem dX2_claimStands_36 : decode cX2_claimStands 36 = .ok (.aload_n 0, 1) := by decide +kernel
theorem dX2_claimStands_37 : decode cX2_claimStands 37 = .ok (.iload_n 1, 1) := by decide +kernel
theorem dX2_claimStands_38 : decode cX2_claimStands 38 = .ok (.iload_n 2, 1) := by decide +kernel
theorem dX2_claimStands_39 : decode cX2_claimStands 39 = .ok (.invokevirtual 131, 3) := by decide +kernel
theorem dX2_claimStands_42 : decode cX2_claimStands 42 = .ok (.aload_n 0, 1) := by decide +kernel
theorem dX2_claimStands_43 : decode cX2_claimStands 43 = .ok (.iload_n 3, 1) := by decide +kernel
theorem dX2_claimStands_44 : decode cX2_claimStands 44 = .ok (.iload_n 2, 1) := by decide +kernel
theorem dX2_claimStands_45 : decode cX2_claimStands 45 = .ok (.invokevirtual 131, 3) := by decide +kernel
theorem dX2_claimStands_48 : decode cX2_claimStands 48 = .ok (.lcmp, 1) := by decide +kernel
theorem dX2_claimStands_49 : decode cX2_claimStands 49 = .ok (.ifCond .ge 7, 3) := by decide +kernel
theorem dX2_claimStands_52 : decode cX2_claimStands 52 = .ok (.iconst 1, 1) := by decide +kernel
theorem dX2_claimStands_53 : decode cX2_claimStands 53 = .ok (.goto 4, 3) := by decide +kernel
theorem dX2_claimStands_56 : decode cX2_claimStands 56 = .ok (.iconst 0, 1) := by decide +kernel
theorem dX2_claimStands_57 : decode cX2_claimStands 57 = .ok (.ireturn, 1) := by decide +kernel
theorem dX2_leave_0 : decode cX2_leave 0 = .ok (.aload_n 0, 1) := by decide +kernel
theorem dX2_leave_1 : decode cX2_leave 1 = .ok (.getfield 60, 3) := by decide +kernel
theorem dX2_leave_4 : decode cX2_leave 4 = .ok (.iload_n 1, 1) := by decide +kernel
theorem dX2_leave_5 : decode cX2_leave 5 = .ok (.iconst (-1), 1) := by decide +kernel
theorem dX2_leave_6 : decode cX2_leave 6 = .ok (.iastore, 1) := by decide +kernel
theorem dX2_leave_7 : decode cX2_leave 7 = .ok (.aload_n 0, 1) := by decide +kernel
theorem dX2_leave_8 : decode cX2_leave 8 = .ok (.dup, 1) := by decide +kernel
theorem dX2_leave_9 : decode cX2_leave 9 = .ok (.getfield 41, 3) := by decide +kernel
theorem dX2_leave_12 : decode cX2_leave 12 = .ok (.lconst 1, 1) := by decide +kernel
theorem dX2_leave_13 : decode cX2_leave 13 = .ok (.iload_n 1, 1) := by decide +kernel
theorem dX2_leave_14 : decode cX2_leave 14 = .ok (.lshl, 1) := by decide +kernel
theorem dX2_leave_15 : decode cX2_leave 15 = .ok (.ldc2_w 153, 3) := by decide +kernel
theorem dX2_leave_18 : decode cX2_leave 18 = .ok (.lxor, 1) := by decide +kernel
theorem dX2_leave_19 : decode cX2_leave 19 = .ok (.land, 1) := by decide +kernel
theorem dX2_leave_20 : decode cX2_leave 20 = .ok (.putfield 41, 3) := by decide +kernel
theorem dX2_leave_23 : decode cX2_leave 23 = .ok (.return_, 1) := by decide +kernel
theorem dX2_takeOut_0 : decode cX2_takeOut 0 = .ok (.aload_n 0, 1) := by decide +kernel
theorem dX2_takeOut_1 : decode cX2_takeOut 1 = .ok (.iload_n 1, 1) := by decide +kernel
theorem dX2_takeOut_2 : decode cX2_takeOut 2 = .ok (.invokevirtual 159, 3) := by decide +kernel
theorem dX2_takeOut_5 : decode cX2_takeOut 5 = .ok (.aload_n 0, 1) := by decide +kernel
theorem dX2_takeOut_6 : decode cX2_takeOut 6 = .ok (.dup, 1) := by decide +kernel
theorem dX2_takeOut_7 : decode cX2_takeOut 7 = .ok (.getfield 38, 3) := by decide +kernel
theorem dX2_takeOut_10 : decode cX2_takeOut 10 = .ok (.lconst 1, 1) := by decide +kernel
theorem dX2_takeOut_11 : decode cX2_takeOut 11 = .ok (.iload_n 1, 1) := by decide +kernel
theorem dX2_takeOut_12 : decode cX2_takeOut 12 = .ok (.lshl, 1) := by decide +kernel
theorem dX2_takeOut_13 : decode cX2_takeOut 13 = .ok (.lor, 1) := by decide +kernel
theorem dX2_takeOut_14 : decode cX2_takeOut 14 = .ok (.putfield 38, 3) := by decide +kernel
theorem dX2_takeOut_17 : decode cX2_takeOut 17 = .ok (.return_, 1) := by decide +kernel
theorem dX2_handBack_0 : decode cX2_handBack 0 = .ok (.aload_n 0, 1) := by decide +kernel
theorem dX2_handBack_1 : decode cX2_handBack 1 = .ok (.iload_n 1, 1) := by decide +kernel
theorem dX2_handBack_2 : decode cX2_handBack 2 = .ok (.invokevirtual 163, 3) := by decide +kernel
theorem dX2_handBack_5 : decode cX2_handBack 5 = .ok (.istore_n 2, 1) := by decide +kernel
theorem dX2_handBack_6 : decode cX2_handBack 6 = .ok (.aload_n 0, 1) := by decide +kernel
theorem dX2_handBack_7 : decode cX2_handBack 7 = .ok (.iload_n 1, 1) := by decide +kernel
theorem dX2_handBack_8 : decode cX2_handBack 8 = .ok (.invokevirtual 159, 3) := by decide +kernel
theorem dX2_handBack_11 : decode cX2_handBack 11 = .ok (.iload_n 2, 1) := by decide +kernel
theorem dX2_handBack_12 : decode cX2_handBack 12 = .ok (.ifCond .gt 11, 3) := by decide +kernel
theorem dX2_handBack_15 : decode cX2_handBack 15 = .ok (.aload_n 0, 1) := by decide +kernel
theorem dX2_handBack_16 : decode cX2_handBack 16 = .ok (.iload_n 1, 1) := by decide +kernel
theorem dX2_handBack_17 : decode cX2_handBack 17 = .ok (.invokevirtual 167, 3) := by decide +kernel
theorem dX2_handBack_20 : decode cX2_handBack 20 = .ok (.goto 19, 3) := by decide +kernel
theorem dX2_handBack_23 : decode cX2_handBack 23 = .ok (.aload_n 0, 1) := by decide +kernel
theorem dX2_handBack_24 : decode cX2_handBack 24 = .ok (.getfield 57, 3) := by decide +kernel
theorem dX2_handBack_27 : decode cX2_handBack 27 = .ok (.iload_n 1, 1) := by decide +kernel
theorem dX2_handBack_28 : decode cX2_handBack 28 = .ok (.dup2, 1) := by decide +kernel
theorem dX2_handBack_29 : decode cX2_handBack 29 = .ok (.iaload, 1) := by decide +kernel
theorem dX2_handBack_30 : decode cX2_handBack 30 = .ok (.iconst 1, 1) := by decide +kernel
theorem dX2_handBack_31 : decode cX2_handBack 31 = .ok (.iconst 4, 1) := by decide +kernel
theorem dX2_handBack_32 : decode cX2_handBack 32 = .ok (.iload_n 2, 1) := by decide +kernel
theorem dX2_handBack_33 : decode cX2_handBack 33 = .ok (.imul, 1) := by decide +kernel
theorem dX2_handBack_34 : decode cX2_handBack 34 = .ok (.ishl, 1) := by decide +kernel
theorem dX2_handBack_35 : decode cX2_handBack 35 = .ok (.iconst 1, 1) := by decide +kernel
theorem dX2_handBack_36 : decode cX2_handBack 36 = .ok (.isub, 1) := by decide +kernel
theorem dX2_handBack_37 : decode cX2_handBack 37 = .ok (.iand, 1) := by decide +kernel
theorem dX2_handBack_38 : decode cX2_handBack 38 = .ok (.iastore, 1) := by decide +kernel
theorem dX2_handBack_39 : decode cX2_handBack 39 = .ok (.return_, 1) := by decide +kernel
theorem dX2_hearAppeal_0 : decode cX2_hearAppeal 0 = .ok (.aload_n 0, 1) := by decide +kernel
theorem dX2_hearAppeal_1 : decode cX2_hearAppeal 1 = .ok (.iload_n 1, 1) := by decide +kernel
theorem dX2_hearAppeal_2 : decode cX2_hearAppeal 2 = .ok (.iload_n 2, 1) := by decide +kernel
theorem dX2_hearAppeal_3 : decode cX2_hearAppeal 3 = .ok (.invokevirtual 170, 3) := by decide +kernel
theorem dX2_hearAppeal_6 : decode cX2_hearAppeal 6 = .ok (.istore_n 3, 1) := by decide +kernel
theorem dX2_hearAppeal_7 : decode cX2_hearAppeal 7 = .ok (.iload_n 3, 1) := by decide +kernel
theorem dX2_hearAppeal_8 : decode cX2_hearAppeal 8 = .ok (.ifCond .ne 21, 3) := by decide +kernel
theorem dX2_hearAppeal_11 : decode cX2_hearAppeal 11 = .ok (.aload_n 0, 1) := by decide +kernel
theorem dX2_hearAppeal_12 : decode cX2_hearAppeal 12 = .ok (.getfield 69, 3) := by decide +kernel
theorem dX2_hearAppeal_15 : decode cX2_hearAppeal 15 = .ok (.iload_n 2, 1) := by decide +kernel
theorem dX2_hearAppeal_16 : decode cX2_hearAppeal 16 = .ok (.iaload, 1) := by decide +kernel
theorem dX2_hearAppeal_17 : decode cX2_hearAppeal 17 = .ok (.aload_n 0, 1) := by decide +kernel
theorem dX2_hearAppeal_18 : decode cX2_hearAppeal 18 = .ok (.getfield 72, 3) := by decide +kernel
theorem dX2_hearAppeal_21 : decode cX2_hearAppeal 21 = .ok (.getfield 173, 3) := by decide +kernel
theorem dX2_hearAppeal_24 : decode cX2_hearAppeal 24 = .ok (.if_icmp .lt 5, 3) := by decide +kernel
theorem dX2_hearAppeal_27 : decode cX2_hearAppeal 27 = .ok (.iconst 0, 1) := by decide +kernel
theorem dX2_hearAppeal_28 : decode cX2_hearAppeal 28 = .ok (.ireturn, 1) := by decide +kernel
theorem dX2_hearAppeal_29 : decode cX2_hearAppeal 29 = .ok (.iload_n 3, 1) := by decide +kernel
theorem dX2_hearAppeal_30 : decode cX2_hearAppeal 30 = .ok (.ifCond .ne 13, 3) := by decide +kernel
theorem dX2_hearAppeal_33 : decode cX2_hearAppeal 33 = .ok (.aload_n 0, 1) := by decide +kernel
theorem dX2_hearAppeal_34 : decode cX2_hearAppeal 34 = .ok (.getfield 69, 3) := by decide +kernel
theorem dX2_hearAppeal_37 : decode cX2_hearAppeal 37 = .ok (.iload_n 2, 1) := by decide +kernel
theorem dX2_hearAppeal_38 : decode cX2_hearAppeal 38 = .ok (.dup2, 1) := by decide +kernel
theorem dX2_hearAppeal_39 : decode cX2_hearAppeal 39 = .ok (.iaload, 1) := by decide +kernel
theorem dX2_hearAppeal_40 : decode cX2_hearAppeal 40 = .ok (.iconst 1, 1) := by decide +kernel
theorem dX2_hearAppeal_41 : decode cX2_hearAppeal 41 = .ok (.iadd, 1) := by decide +kernel
theorem dX2_hearAppeal_42 : decode cX2_hearAppeal 42 = .ok (.iastore, 1) := by decide +kernel
theorem dX2_hearAppeal_43 : decode cX2_hearAppeal 43 = .ok (.aload_n 0, 1) := by decide +kernel
theorem dX2_hearAppeal_44 : decode cX2_hearAppeal 44 = .ok (.getfield 60, 3) := by decide +kernel
theorem dX2_hearAppeal_47 : decode cX2_hearAppeal 47 = .ok (.iload_n 1, 1) := by decide +kernel
theorem dX2_hearAppeal_48 : decode cX2_hearAppeal 48 = .ok (.iload_n 2, 1) := by decide +kernel
theorem dX2_hearAppeal_49 : decode cX2_hearAppeal 49 = .ok (.iastore, 1) := by decide +kernel
theorem dX2_hearAppeal_50 : decode cX2_hearAppeal 50 = .ok (.aload_n 0, 1) := by decide +kernel
theorem dX2_hearAppeal_51 : decode cX2_hearAppeal 51 = .ok (.dup, 1) := by decide +kernel
theorem dX2_hearAppeal_52 : decode cX2_hearAppeal 52 = .ok (.getfield 41, 3) := by decide +kernel
theorem dX2_hearAppeal_55 : decode cX2_hearAppeal 55 = .ok (.lconst 1, 1) := by decide +kernel
theorem dX2_hearAppeal_56 : decode cX2_hearAppeal 56 = .ok (.iload_n 1, 1) := by decide +kernel
theorem dX2_hearAppeal_57 : decode cX2_hearAppeal 57 = .ok (.lshl, 1) := by decide +kernel
theorem dX2_hearAppeal_58 : decode cX2_hearAppeal 58 = .ok (.lor, 1) := by decide +kernel
theorem dX2_hearAppeal_59 : decode cX2_hearAppeal 59 = .ok (.putfield 41, 3) := by decide +kernel
theorem dX2_hearAppeal_62 : decode cX2_hearAppeal 62 = .ok (.iload_n 3, 1) := by decide +kernel
theorem dX2_hearAppeal_63 : decode cX2_hearAppeal 63 = .ok (.ifCond .eq 7, 3) := by decide +kernel
theorem dX2_hearAppeal_66 : decode cX2_hearAppeal 66 = .ok (.iconst 2, 1) := by decide +kernel
theorem dX2_hearAppeal_67 : decode cX2_hearAppeal 67 = .ok (.goto 4, 3) := by decide +kernel
theorem dX2_hearAppeal_70 : decode cX2_hearAppeal 70 = .ok (.iconst 1, 1) := by decide +kernel
theorem dX2_hearAppeal_71 : decode cX2_hearAppeal 71 = .ok (.ireturn, 1) := by decide +kernel
theorem dX2_fillPlaces_0 : decode cX2_fillPlaces 0 = .ok (.iconst 0, 1) := by decide +kernel
theorem dX2_fillPlaces_1 : decode cX2_fillPlaces 1 = .ok (.istore_n 1, 1) := by decide +kernel
theorem dX2_fillPlaces_2 : decode cX2_fillPlaces 2 = .ok (.iload_n 1, 1) := by decide +kernel
theorem dX2_fillPlaces_3 : decode cX2_fillPlaces 3 = .ok (.sipush 160, 3) := by decide +kernel
theorem dX2_fillPlaces_6 : decode cX2_fillPlaces 6 = .ok (.if_icmp .ge 27, 3) := by decide +kernel
theorem dX2_fillPlaces_9 : decode cX2_fillPlaces 9 = .ok (.aload_n 0, 1) := by decide +kernel
theorem dX2_fillPlaces_10 : decode cX2_fillPlaces 10 = .ok (.invokevirtual 176, 3) := by decide +kernel
theorem dX2_fillPlaces_13 : decode cX2_fillPlaces 13 = .ok (.ifCond .ne 4, 3) := by decide +kernel
theorem dX2_fillPlaces_16 : decode cX2_fillPlaces 16 = .ok (.return_, 1) := by decide +kernel
theorem dX2_fillPlaces_17 : decode cX2_fillPlaces 17 = .ok (.aload_n 0, 1) := by decide +kernel
theorem dX2_fillPlaces_18 : decode cX2_fillPlaces 18 = .ok (.dup, 1) := by decide +kernel
theorem dX2_fillPlaces_19 : decode cX2_fillPlaces 19 = .ok (.getfield 28, 3) := by decide +kernel
theorem dX2_fillPlaces_22 : decode cX2_fillPlaces 22 = .ok (.iconst 1, 1) := by decide +kernel
theorem dX2_fillPlaces_23 : decode cX2_fillPlaces 23 = .ok (.iadd, 1) := by decide +kernel
theorem dX2_fillPlaces_24 : decode cX2_fillPlaces 24 = .ok (.putfield 28, 3) := by decide +kernel
theorem dX2_fillPlaces_27 : decode cX2_fillPlaces 27 = .ok (.iinc 1 1, 3) := by decide +kernel
theorem dX2_fillPlaces_30 : decode cX2_fillPlaces 30 = .ok (.goto (-28), 3) := by decide +kernel
theorem dX2_fillPlaces_33 : decode cX2_fillPlaces 33 = .ok (.return_, 1) := by decide +kernel
theorem dX2_fillOne_0 : decode cX2_fillOne 0 = .ok (.iconst 0, 1) := by decide +kernel
theorem dX2_fillOne_1 : decode cX2_fillOne 1 = .ok (.istore_n 1, 1) := by decide +kernel
theorem dX2_fillOne_2 : decode cX2_fillOne 2 = .ok (.iload_n 1, 1) := by decide +kernel
theorem dX2_fillOne_3 : decode cX2_fillOne 3 = .ok (.aload_n 0, 1) := by decide +kernel
theorem dX2_fillOne_4 : decode cX2_fillOne 4 = .ok (.getfield 72, 3) := by decide +kernel
theorem dX2_fillOne_7 : decode cX2_fillOne 7 = .ok (.getfield 180, 3) := by decide +kernel
theorem dX2_fillOne_10 : decode cX2_fillOne 10 = .ok (.if_icmp .ge 56, 3) := by decide +kernel
theorem dX2_fillOne_13 : decode cX2_fillOne 13 = .ok (.aload_n 0, 1) := by decide +kernel
theorem dX2_fillOne_14 : decode cX2_fillOne 14 = .ok (.iload_n 1, 1) := by decide +kernel
theorem dX2_fillOne_15 : decode cX2_fillOne 15 = .ok (.invokevirtual 149, 3) := by decide +kernel
theorem dX2_fillOne_18 : decode cX2_fillOne 18 = .ok (.invokestatic 183, 3) := by decide +kernel
theorem dX2_fillOne_21 : decode cX2_fillOne 21 = .ok (.aload_n 0, 1) := by decide +kernel
theorem dX2_fillOne_22 : decode cX2_fillOne 22 = .ok (.getfield 66, 3) := by decide +kernel
theorem dX2_fillOne_25 : decode cX2_fillOne 25 = .ok (.iload_n 1, 1) := by decide +kernel
theorem dX2_fillOne_26 : decode cX2_fillOne 26 = .ok (.iaload, 1) := by decide +kernel
theorem dX2_fillOne_27 : decode cX2_fillOne 27 = .ok (.if_icmp .ge 33, 3) := by decide +kernel
theorem dX2_fillOne_30 : decode cX2_fillOne 30 = .ok (.aload_n 0, 1) := by decide +kernel
theorem dX2_fillOne_31 : decode cX2_fillOne 31 = .ok (.aload_n 0, 1) := by decide +kernel
theorem dX2_fillOne_32 : decode cX2_fillOne 32 = .ok (.iload_n 1, 1) := by decide +kernel
theorem dX2_fillOne_33 : decode cX2_fillOne 33 = .ok (.invokevirtual 189, 3) := by decide +kernel
theorem dX2_fillOne_36 : decode cX2_fillOne 36 = .ok (.iload_n 1, 1) := by decide +kernel
theorem dX2_fillOne_37 : decode cX2_fillOne 37 = .ok (.invokevirtual 192, 3) := by decide +kernel
theorem dX2_fillOne_40 : decode cX2_fillOne 40 = .ok (.istore_n 2, 1) := by decide +kernel
theorem dX2_fillOne_41 : decode cX2_fillOne 41 = .ok (.iload_n 2, 1) := by decide +kernel
theorem dX2_fillOne_42 : decode cX2_fillOne 42 = .ok (.iconst (-1), 1) := by decide +kernel
theorem dX2_fillOne_43 : decode cX2_fillOne 43 = .ok (.if_icmp .eq 17, 3) := by decide +kernel
theorem dX2_fillOne_46 : decode cX2_fillOne 46 = .ok (.aload_n 0, 1) := by decide +kernel
theorem dX2_fillOne_47 : decode cX2_fillOne 47 = .ok (.iload_n 2, 1) := by decide +kernel
theorem dX2_fillOne_48 : decode cX2_fillOne 48 = .ok (.invokevirtual 159, 3) := by decide +kernel
theorem dX2_fillOne_51 : decode cX2_fillOne 51 = .ok (.aload_n 0, 1) := by decide +kernel
theorem dX2_fillOne_52 : decode cX2_fillOne 52 = .ok (.getfield 60, 3) := by decide +kernel
theorem dX2_fillOne_55 : decode cX2_fillOne 55 = .ok (.iload_n 2, 1) := by decide +kernel
theorem dX2_fillOne_56 : decode cX2_fillOne 56 = .ok (.iload_n 1, 1) := by decide +kernel
theorem dX2_fillOne_57 : decode cX2_fillOne 57 = .ok (.iastore, 1) := by decide +kernel
theorem dX2_fillOne_58 : decode cX2_fillOne 58 = .ok (.iconst 1, 1) := by decide +kernel
theorem dX2_fillOne_59 : decode cX2_fillOne 59 = .ok (.ireturn, 1) := by decide +kernel
theorem dX2_fillOne_60 : decode cX2_fillOne 60 = .ok (.iinc 1 1, 3) := by decide +kernel
theorem dX2_fillOne_63 : decode cX2_fillOne 63 = .ok (.goto (-61), 3) := by decide +kernel
theorem dX2_fillOne_66 : decode cX2_fillOne 66 = .ok (.iconst 0, 1) := by decide +kernel
theorem dX2_fillOne_67 : decode cX2_fillOne 67 = .ok (.ireturn, 1) := by decide +kernel
theorem dX2_takeAllBack_0 : decode cX2_takeAllBack 0 = .ok (.aload_n 0, 1) := by decide +kernel
theorem dX2_takeAllBack_1 : decode cX2_takeAllBack 1 = .ok (.getfield 60, 3) := by decide +kernel
theorem dX2_takeAllBack_4 : decode cX2_takeAllBack 4 = .ok (.iconst (-1), 1) := by decide +kernel
theorem dX2_takeAllBack_5 : decode cX2_takeAllBack 5 = .ok (.invokestatic 76, 3) := by decide +kernel
theorem dX2_takeAllBack_8 : decode cX2_takeAllBack 8 = .ok (.aload_n 0, 1) := by decide +kernel
theorem dX2_takeAllBack_9 : decode cX2_takeAllBack 9 = .ok (.getfield 63, 3) := by decide +kernel
theorem dX2_takeAllBack_12 : decode cX2_takeAllBack 12 = .ok (.iconst 0, 1) := by decide +kernel
theorem dX2_takeAllBack_13 : decode cX2_takeAllBack 13 = .ok (.invokestatic 76, 3) := by decide +kernel
theorem dX2_takeAllBack_16 : decode cX2_takeAllBack 16 = .ok (.aload_n 0, 1) := by decide +kernel
theorem dX2_takeAllBack_17 : decode cX2_takeAllBack 17 = .ok (.getfield 69, 3) := by decide +kernel
theorem dX2_takeAllBack_20 : decode cX2_takeAllBack 20 = .ok (.iconst 0, 1) := by decide +kernel
theorem dX2_takeAllBack_21 : decode cX2_takeAllBack 21 = .ok (.invokestatic 76, 3) := by decide +kernel
theorem dX2_takeAllBack_24 : decode cX2_takeAllBack 24 = .ok (.aload_n 0, 1) := by decide +kernel
theorem dX2_takeAllBack_25 : decode cX2_takeAllBack 25 = .ok (.lconst 0, 1) := by decide +kernel
theorem dX2_takeAllBack_26 : decode cX2_takeAllBack 26 = .ok (.putfield 41, 3) := by decide +kernel
theorem dX2_takeAllBack_29 : decode cX2_takeAllBack 29 = .ok (.aload_n 0, 1) := by decide +kernel
theorem dX2_takeAllBack_30 : decode cX2_takeAllBack 30 = .ok (.iconst 1, 1) := by decide +kernel
theorem dX2_takeAllBack_31 : decode cX2_takeAllBack 31 = .ok (.putfield 22, 3) := by decide +kernel
theorem dX2_takeAllBack_34 : decode cX2_takeAllBack 34 = .ok (.aload_n 0, 1) := by decide +kernel
theorem dX2_takeAllBack_35 : decode cX2_takeAllBack 35 = .ok (.iconst 0, 1) := by decide +kernel
theorem dX2_takeAllBack_36 : decode cX2_takeAllBack 36 = .ok (.putfield 25, 3) := by decide +kernel
theorem dX2_takeAllBack_39 : decode cX2_takeAllBack 39 = .ok (.aload_n 0, 1) := by decide +kernel
theorem dX2_takeAllBack_40 : decode cX2_takeAllBack 40 = .ok (.iconst 0, 1) := by decide +kernel
theorem dX2_takeAllBack_41 : decode cX2_takeAllBack 41 = .ok (.putfield 28, 3) := by decide +kernel
theorem dX2_takeAllBack_44 : decode cX2_takeAllBack 44 = .ok (.return_, 1) := by decide +kernel
theorem dX4_init_0 : decode cX4_init 0 = .ok (.aload_n 0, 1) := by decide +kernel
theorem dX4_init_1 : decode cX4_init 1 = .ok (.invokespecial 3, 3) := by decide +kernel
theorem dX4_init_4 : decode cX4_init 4 = .ok (.aload_n 0, 1) := by decide +kernel
theorem dX4_init_5 : decode cX4_init 5 = .ok (.iconst 0, 1) := by decide +kernel
theorem dX4_init_6 : decode cX4_init 6 = .ok (.putfield 9, 3) := by decide +kernel
theorem dX4_init_9 : decode cX4_init 9 = .ok (.aload_n 0, 1) := by decide +kernel
theorem dX4_init_10 : decode cX4_init 10 = .ok (.iconst 0, 1) := by decide +kernel
theorem dX4_init_11 : decode cX4_init 11 = .ok (.putfield 15, 3) := by decide +kernel
theorem dX4_init_14 : decode cX4_init 14 = .ok (.aload_n 0, 1) := by decide +kernel
theorem dX4_init_15 : decode cX4_init 15 = .ok (.iconst 0, 1) := by decide +kernel
theorem dX4_init_16 : decode cX4_init 16 = .ok (.putfield 18, 3) := by decide +kernel
theorem dX4_init_19 : decode cX4_init 19 = .ok (.aload_n 0, 1) := by decide +kernel
theorem dX4_init_20 : decode cX4_init 20 = .ok (.bipush 8, 2) := by decide +kernel
theorem dX4_init_22 : decode cX4_init 22 = .ok (.newarray .int, 2) := by decide +kernel
theorem dX4_init_24 : decode cX4_init 24 = .ok (.putfield 21, 3) := by decide +kernel
theorem dX4_init_27 : decode cX4_init 27 = .ok (.aload_n 0, 1) := by decide +kernel
theorem dX4_init_28 : decode cX4_init 28 = .ok (.bipush 8, 2) := by decide +kernel
theorem dX4_init_30 : decode cX4_init 30 = .ok (.newarray .int, 2) := by decide +kernel
theorem dX4_init_32 : decode cX4_init 32 = .ok (.putfield 25, 3) := by decide +kernel
theorem dX4_init_35 : decode cX4_init 35 = .ok (.aload_n 0, 1) := by decide +kernel
theorem dX4_init_36 : decode cX4_init 36 = .ok (.bipush 8, 2) := by decide +kernel
theorem dX4_init_38 : decode cX4_init 38 = .ok (.newarray .int, 2) := by decide +kernel
theorem dX4_init_40 : decode cX4_init 40 = .ok (.putfield 28, 3) := by decide +kernel
theorem dX4_init_43 : decode cX4_init 43 = .ok (.aload_n 0, 1) := by decide +kernel
theorem dX4_init_44 : decode cX4_init 44 = .ok (.bipush 8, 2) := by decide +kernel
theorem dX4_init_46 : decode cX4_init 46 = .ok (.newarray .int, 2) := by decide +kernel
theorem dX4_init_48 : decode cX4_init 48 = .ok (.putfield 31, 3) := by decide +kernel
theorem dX4_init_51 : decode cX4_init 51 = .ok (.aload_n 0, 1) := by decide +kernel
theorem dX4_init_52 : decode cX4_init 52 = .ok (.bipush 8, 2) := by decide +kernel
theorem dX4_init_54 : decode cX4_init 54 = .ok (.newarray .int, 2) := by decide +kernel
theorem dX4_init_56 : decode cX4_init 56 = .ok (.putfield 34, 3) := by decide +kernel
theorem dX4_init_59 : decode cX4_init 59 = .ok (.aload_n 0, 1) := by decide +kernel
theorem dX4_init_60 : decode cX4_init 60 = .ok (.bipush 8, 2) := by decide +kernel
theorem dX4_init_62 : decode cX4_init 62 = .ok (.newarray .int, 2) := by decide +kernel
theorem dX4_init_64 : decode cX4_init 64 = .ok (.putfield 37, 3) := by decide +kernel
theorem dX4_init_67 : decode cX4_init 67 = .ok (.aload_n 0, 1) := by decide +kernel
theorem dX4_init_68 : decode cX4_init 68 = .ok (.bipush 8, 2) := by decide +kernel
theorem dX4_init_70 : decode cX4_init 70 = .ok (.newarray .int, 2) := by decide +kernel
theorem dX4_init_72 : decode cX4_init 72 = .ok (.putfield 40, 3) := by decide +kernel
theorem dX4_init_75 : decode cX4_init 75 = .ok (.aload_n 0, 1) := by decide +kernel
theorem dX4_init_76 : decode cX4_init 76 = .ok (.bipush 8, 2) := by decide +kernel
theorem dX4_init_78 : decode cX4_init 78 = .ok (.newarray .int, 2) := by decide +kernel
theorem dX4_init_80 : decode cX4_init 80 = .ok (.putfield 43, 3) := by decide +kernel
theorem dX4_init_83 : decode cX4_init 83 = .ok (.aload_n 0, 1) := by decide +kernel
theorem dX4_init_84 : decode cX4_init 84 = .ok (.bipush 8, 2) := by decide +kernel
theorem dX4_init_86 : decode cX4_init 86 = .ok (.newarray .int, 2) := by decide +kernel
theorem dX4_init_88 : decode cX4_init 88 = .ok (.putfield 46, 3) := by decide +kernel
theorem dX4_init_91 : decode cX4_init 91 = .ok (.aload_n 0, 1) := by decide +kernel
theorem dX4_init_92 : decode cX4_init 92 = .ok (.bipush 100, 2) := by decide +kernel
theorem dX4_init_94 : decode cX4_init 94 = .ok (.newarray .int, 2) := by decide +kernel
theorem dX4_init_96 : decode cX4_init 96 = .ok (.putfield 49, 3) := by decide +kernel
theorem dX4_init_99 : decode cX4_init 99 = .ok (.return_, 1) := by decide +kernel
theorem dX4_clear_0 : decode cX4_clear 0 = .ok (.aload_n 0, 1) := by decide +kernel
theorem dX4_clear_1 : decode cX4_clear 1 = .ok (.iconst 0, 1) := by decide +kernel
theorem dX4_clear_2 : decode cX4_clear 2 = .ok (.putfield 9, 3) := by decide +kernel
theorem dX4_clear_5 : decode cX4_clear 5 = .ok (.aload_n 0, 1) := by decide +kernel
theorem dX4_clear_6 : decode cX4_clear 6 = .ok (.iconst 0, 1) := by decide +kernel
theorem dX4_clear_7 : decode cX4_clear 7 = .ok (.putfield 15, 3) := by decide +kernel
theorem dX4_clear_10 : decode cX4_clear 10 = .ok (.aload_n 0, 1) := by decide +kernel
theorem dX4_clear_11 : decode cX4_clear 11 = .ok (.iconst 0, 1) := by decide +kernel
theorem dX4_clear_12 : decode cX4_clear 12 = .ok (.putfield 18, 3) := by decide +kernel
theorem dX4_clear_15 : decode cX4_clear 15 = .ok (.aload_n 0, 1) := by decide +kernel
theorem dX4_clear_16 : decode cX4_clear 16 = .ok (.getfield 49, 3) := by decide +kernel
theorem dX4_clear_19 : decode cX4_clear 19 = .ok (.iconst 0, 1) := by decide +kernel
theorem dX4_clear_20 : decode cX4_clear 20 = .ok (.invokestatic 52, 3) := by decide +kernel
theorem dX4_clear_23 : decode cX4_clear 23 = .ok (.return_, 1) := by decide +kernel
theorem dX4_tellSchool_0 : decode cX4_tellSchool 0 = .ok (.aload_n 0, 1) := by decide +kernel
theorem dX4_tellSchool_1 : decode cX4_tellSchool 1 = .ok (.getfield 21, 3) := by decide +kernel
theorem dX4_tellSchool_4 : decode cX4_tellSchool 4 = .ok (.aload_n 0, 1) := by decide +kernel
theorem dX4_tellSchool_5 : decode cX4_tellSchool 5 = .ok (.getfield 9, 3) := by decide +kernel
theorem dX4_tellSchool_8 : decode cX4_tellSchool 8 = .ok (.iload_n 1, 1) := by decide +kernel
theorem dX4_tellSchool_9 : decode cX4_tellSchool 9 = .ok (.iastore, 1) := by decide +kernel
theorem dX4_tellSchool_10 : decode cX4_tellSchool 10 = .ok (.aload_n 0, 1) := by decide +kernel
theorem dX4_tellSchool_11 : decode cX4_tellSchool 11 = .ok (.getfield 25, 3) := by decide +kernel
theorem dX4_tellSchool_14 : decode cX4_tellSchool 14 = .ok (.aload_n 0, 1) := by decide +kernel
theorem dX4_tellSchool_15 : decode cX4_tellSchool 15 = .ok (.getfield 9, 3) := by decide +kernel
theorem dX4_tellSchool_18 : decode cX4_tellSchool 18 = .ok (.iload_n 2, 1) := by decide +kernel
theorem dX4_tellSchool_19 : decode cX4_tellSchool 19 = .ok (.iastore, 1) := by decide +kernel
theorem dX4_tellSchool_20 : decode cX4_tellSchool 20 = .ok (.aload_n 0, 1) := by decide +kernel
theorem dX4_tellSchool_21 : decode cX4_tellSchool 21 = .ok (.getfield 28, 3) := by decide +kernel
theorem dX4_tellSchool_24 : decode cX4_tellSchool 24 = .ok (.aload_n 0, 1) := by decide +kernel
theorem dX4_tellSchool_25 : decode cX4_tellSchool 25 = .ok (.getfield 9, 3) := by decide +kernel
theorem dX4_tellSchool_28 : decode cX4_tellSchool 28 = .ok (.iload_n 3, 1) := by decide +kernel
theorem dX4_tellSchool_29 : decode cX4_tellSchool 29 = .ok (.iastore, 1) := by decide +kernel
theorem dX4_tellSchool_30 : decode cX4_tellSchool 30 = .ok (.aload_n 0, 1) := by decide +kernel
theorem dX4_tellSchool_31 : decode cX4_tellSchool 31 = .ok (.getfield 31, 3) := by decide +kernel
theorem dX4_tellSchool_34 : decode cX4_tellSchool 34 = .ok (.aload_n 0, 1) := by decide +kernel
theorem dX4_tellSchool_35 : decode cX4_tellSchool 35 = .ok (.getfield 9, 3) := by decide +kernel
theorem dX4_tellSchool_38 : decode cX4_tellSchool 38 = .ok (.iload 4, 2) := by decide +kernel
theorem dX4_tellSchool_40 : decode cX4_tellSchool 40 = .ok (.iastore, 1) := by decide +kernel
theorem dX4_tellSchool_41 : decode cX4_tellSchool 41 = .ok (.aload_n 0, 1) := by decide +kernel
theorem dX4_tellSchool_42 : decode cX4_tellSchool 42 = .ok (.getfield 34, 3) := by decide +kernel
theorem dX4_tellSchool_45 : decode cX4_tellSchool 45 = .ok (.aload_n 0, 1) := by decide +kernel
theorem dX4_tellSchool_46 : decode cX4_tellSchool 46 = .ok (.getfield 9, 3) := by decide +kernel
theorem dX4_tellSchool_49 : decode cX4_tellSchool 49 = .ok (.iconst 0, 1) := by decide +kernel
theorem dX4_tellSchool_50 : decode cX4_tellSchool 50 = .ok (.iastore, 1) := by decide +kernel
theorem dX4_tellSchool_51 : decode cX4_tellSchool 51 = .ok (.aload_n 0, 1) := by decide +kernel
theorem dX4_tellSchool_52 : decode cX4_tellSchool 52 = .ok (.getfield 43, 3) := by decide +kernel
theorem dX4_tellSchool_55 : decode cX4_tellSchool 55 = .ok (.aload_n 0, 1) := by decide +kernel
theorem dX4_tellSchool_56 : decode cX4_tellSchool 56 = .ok (.getfield 9, 3) := by decide +kernel
theorem dX4_tellSchool_59 : decode cX4_tellSchool 59 = .ok (.iconst (-1), 1) := by decide +kernel
theorem dX4_tellSchool_60 : decode cX4_tellSchool 60 = .ok (.iastore, 1) := by decide +kernel
theorem dX4_tellSchool_61 : decode cX4_tellSchool 61 = .ok (.aload_n 0, 1) := by decide +kernel
theorem dX4_tellSchool_62 : decode cX4_tellSchool 62 = .ok (.getfield 46, 3) := by decide +kernel
theorem dX4_tellSchool_65 : decode cX4_tellSchool 65 = .ok (.aload_n 0, 1) := by decide +kernel
theorem dX4_tellSchool_66 : decode cX4_tellSchool 66 = .ok (.getfield 9, 3) := by decide +kernel
theorem dX4_tellSchool_69 : decode cX4_tellSchool 69 = .ok (.iconst (-1), 1) := by decide +kernel
theorem dX4_tellSchool_70 : decode cX4_tellSchool 70 = .ok (.iastore, 1) := by decide +kernel
theorem dX4_tellSchool_71 : decode cX4_tellSchool 71 = .ok (.aload_n 0, 1) := by decide +kernel
theorem dX4_tellSchool_72 : decode cX4_tellSchool 72 = .ok (.dup, 1) := by decide +kernel
theorem dX4_tellSchool_73 : decode cX4_tellSchool 73 = .ok (.getfield 9, 3) := by decide +kernel
theorem dX4_tellSchool_76 : decode cX4_tellSchool 76 = .ok (.iconst 1, 1) := by decide +kernel
theorem dX4_tellSchool_77 : decode cX4_tellSchool 77 = .ok (.iadd, 1) := by decide +kernel
theorem dX4_tellSchool_78 : decode cX4_tellSchool 78 = .ok (.putfield 9, 3) := by decide +kernel
theorem dX4_tellSchool_81 : decode cX4_tellSchool 81 = .ok (.return_, 1) := by decide +kernel
theorem dX4_tellZone_0 : decode cX4_tellZone 0 = .ok (.aload_n 0, 1) := by decide +kernel
theorem dX4_tellZone_1 : decode cX4_tellZone 1 = .ok (.getfield 37, 3) := by decide +kernel
theorem dX4_tellZone_4 : decode cX4_tellZone 4 = .ok (.iload_n 1, 1) := by decide +kernel
theorem dX4_tellZone_5 : decode cX4_tellZone 5 = .ok (.iload_n 2, 1) := by decide +kernel
theorem dX4_tellZone_6 : decode cX4_tellZone 6 = .ok (.iastore, 1) := by decide +kernel
theorem dX4_tellZone_7 : decode cX4_tellZone 7 = .ok (.aload_n 0, 1) := by decide +kernel
theorem dX4_tellZone_8 : decode cX4_tellZone 8 = .ok (.getfield 40, 3) := by decide +kernel
theorem dX4_tellZone_11 : decode cX4_tellZone 11 = .ok (.iload_n 1, 1) := by decide +kernel
theorem dX4_tellZone_12 : decode cX4_tellZone 12 = .ok (.iload_n 3, 1) := by decide +kernel
theorem dX4_tellZone_13 : decode cX4_tellZone 13 = .ok (.iastore, 1) := by decide +kernel
theorem dX4_tellZone_14 : decode cX4_tellZone 14 = .ok (.aload_n 0, 1) := by decide +kernel
theorem dX4_tellZone_15 : decode cX4_tellZone 15 = .ok (.getfield 43, 3) := by decide +kernel
theorem dX4_tellZone_18 : decode cX4_tellZone 18 = .ok (.iload_n 1, 1) := by decide +kernel
theorem dX4_tellZone_19 : decode cX4_tellZone 19 = .ok (.iload 4, 2) := by decide +kernel
theorem dX4_tellZone_21 : decode cX4_tellZone 21 = .ok (.iastore, 1) := by decide +kernel
theorem dX4_tellZone_22 : decode cX4_tellZone 22 = .ok (.aload_n 0, 1) := by decide +kernel
theorem dX4_tellZone_23 : decode cX4_tellZone 23 = .ok (.getfield 46, 3) := by decide +kernel
theorem dX4_tellZone_26 : decode cX4_tellZone 26 = .ok (.iload_n 1, 1) := by decide +kernel
theorem dX4_tellZone_27 : decode cX4_tellZone 27 = .ok (.iload 5, 2) := by decide +kernel
theorem dX4_tellZone_29 : decode cX4_tellZone 29 = .ok (.iastore, 1) := by decide +kernel
theorem dX4_tellZone_30 : decode cX4_tellZone 30 = .ok (.return_, 1) := by decide +kernel
theorem dX4_tellPupil_0 : decode cX4_tellPupil 0 = .ok (.aload_n 0, 1) := by decide +kernel
theorem dX4_tellPupil_1 : decode cX4_tellPupil 1 = .ok (.dup, 1) := by decide +kernel
theorem dX4_tellPupil_2 : decode cX4_tellPupil 2 = .ok (.getfield 15, 3) := by decide +kernel
theorem dX4_tellPupil_5 : decode cX4_tellPupil 5 = .ok (.iconst 1, 1) := by decide +kernel
theorem dX4_tellPupil_6 : decode cX4_tellPupil 6 = .ok (.iadd, 1) := by decide +kernel
theorem dX4_tellPupil_7 : decode cX4_tellPupil 7 = .ok (.putfield 15, 3) := by decide +kernel
theorem dX4_tellPupil_10 : decode cX4_tellPupil 10 = .ok (.aload_n 0, 1) := by decide +kernel
theorem dX4_tellPupil_11 : decode cX4_tellPupil 11 = .ok (.getfield 34, 3) := by decide +kernel
theorem dX4_tellPupil_14 : decode cX4_tellPupil 14 = .ok (.iload_n 2, 1) := by decide +kernel
theorem dX4_tellPupil_15 : decode cX4_tellPupil 15 = .ok (.dup2, 1) := by decide +kernel
theorem dX4_tellPupil_16 : decode cX4_tellPupil 16 = .ok (.iaload, 1) := by decide +kernel
theorem dX4_tellPupil_17 : decode cX4_tellPupil 17 = .ok (.iconst 1, 1) := by decide +kernel
theorem dX4_tellPupil_18 : decode cX4_tellPupil 18 = .ok (.iadd, 1) := by decide +kernel
theorem dX4_tellPupil_19 : decode cX4_tellPupil 19 = .ok (.iastore, 1) := by decide +kernel
theorem dX4_tellPupil_20 : decode cX4_tellPupil 20 = .ok (.aload_n 0, 1) := by decide +kernel
theorem dX4_tellPupil_21 : decode cX4_tellPupil 21 = .ok (.getfield 49, 3) := by decide +kernel
theorem dX4_tellPupil_24 : decode cX4_tellPupil 24 = .ok (.iload_n 1, 1) := by decide +kernel
theorem dX4_tellPupil_25 : decode cX4_tellPupil 25 = .ok (.dup2, 1) := by decide +kernel
theorem dX4_tellPupil_26 : decode cX4_tellPupil 26 = .ok (.iaload, 1) := by decide +kernel
theorem dX4_tellPupil_27 : decode cX4_tellPupil 27 = .ok (.iconst 1, 1) := by decide +kernel
theorem dX4_tellPupil_28 : decode cX4_tellPupil 28 = .ok (.iload_n 2, 1) := by decide +kernel
theorem dX4_tellPupil_29 : decode cX4_tellPupil 29 = .ok (.ishl, 1) := by decide +kernel
theorem dX4_tellPupil_30 : decode cX4_tellPupil 30 = .ok (.ior, 1) := by decide +kernel
theorem dX4_tellPupil_31 : decode cX4_tellPupil 31 = .ok (.iastore, 1) := by decide +kernel
theorem dX4_tellPupil_32 : decode cX4_tellPupil 32 = .ok (.return_, 1) := by decide +kernel
theorem dX4_find_0 : decode cX4_find 0 = .ok (.iconst 0, 1) := by decide +kernel
theorem dX4_find_1 : decode cX4_find 1 = .ok (.istore_n 2, 1) := by decide +kernel
theorem dX4_find_2 : decode cX4_find 2 = .ok (.iload_n 2, 1) := by decide +kernel
theorem dX4_find_3 : decode cX4_find 3 = .ok (.aload_n 0, 1) := by decide +kernel
theorem dX4_find_4 : decode cX4_find 4 = .ok (.getfield 9, 3) := by decide +kernel
theorem dX4_find_7 : decode cX4_find 7 = .ok (.if_icmp .ge 21, 3) := by decide +kernel
theorem dX4_find_10 : decode cX4_find 10 = .ok (.aload_n 0, 1) := by decide +kernel
theorem dX4_find_11 : decode cX4_find 11 = .ok (.getfield 21, 3) := by decide +kernel
theorem dX4_find_14 : decode cX4_find 14 = .ok (.iload_n 2, 1) := by decide +kernel
theorem dX4_find_15 : decode cX4_find 15 = .ok (.iaload, 1) := by decide +kernel
theorem dX4_find_16 : decode cX4_find 16 = .ok (.iload_n 1, 1) := by decide +kernel
theorem dX4_find_17 : decode cX4_find 17 = .ok (.if_icmp .ne 5, 3) := by decide +kernel
theorem dX4_find_20 : decode cX4_find 20 = .ok (.iload_n 2, 1) := by decide +kernel
theorem dX4_find_21 : decode cX4_find 21 = .ok (.ireturn, 1) := by decide +kernel
theorem dX4_find_22 : decode cX4_find 22 = .ok (.iinc 2 1, 3) := by decide +kernel
theorem dX4_find_25 : decode cX4_find 25 = .ok (.goto (-23), 3) := by decide +kernel
theorem dX4_find_28 : decode cX4_find 28 = .ok (.iconst (-1), 1) := by decide +kernel
theorem dX4_find_29 : decode cX4_find 29 = .ok (.ireturn, 1) := by decide +kernel
theorem dX4_isZoned_0 : decode cX4_isZoned 0 = .ok (.aload_n 0, 1) := by decide +kernel
theorem dX4_isZoned_1 : decode cX4_isZoned 1 = .ok (.getfield 43, 3) := by decide +kernel
theorem dX4_isZoned_4 : decode cX4_isZoned 4 = .ok (.iload_n 1, 1) := by decide +kernel
theorem dX4_isZoned_5 : decode cX4_isZoned 5 = .ok (.iaload, 1) := by decide +kernel
theorem dX4_isZoned_6 : decode cX4_isZoned 6 = .ok (.iconst (-1), 1) := by decide +kernel
theorem dX4_isZoned_7 : decode cX4_isZoned 7 = .ok (.if_icmp .eq 7, 3) := by decide +kernel
theorem dX4_isZoned_10 : decode cX4_isZoned 10 = .ok (.iconst 1, 1) := by decide +kernel
theorem dX4_isZoned_11 : decode cX4_isZoned 11 = .ok (.goto 4, 3) := by decide +kernel
theorem dX4_isZoned_14 : decode cX4_isZoned 14 = .ok (.iconst 0, 1) := by decide +kernel
theorem dX4_isZoned_15 : decode cX4_isZoned 15 = .ok (.ireturn, 1) := by decide +kernel
