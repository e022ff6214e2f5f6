theorem dL_count_0 : decode cL_count 0 = .ok (.aload_n 2, 1) := by decide +kernel
theorem dL_count_1 : decode cL_count 1 = .ok (.iconst 0, 1) := by decide +kernel
theorem dL_count_2 : decode cL_count 2 = .ok (.aload_n 0, 1) := by decide +kernel
theorem dL_count_3 : decode cL_count 3 = .ok (.iload_n 1, 1) := by decide +kernel
theorem dL_count_4 : decode cL_count 4 = .ok (.invokevirtual 7, 3) := by decide +kernel
theorem dL_count_7 : decode cL_count 7 = .ok (.i2l, 1) := by decide +kernel
theorem dL_count_8 : decode cL_count 8 = .ok (.lastore, 1) := by decide +kernel
theorem dL_count_9 : decode cL_count 9 = .ok (.goto 6, 3) := by decide +kernel
theorem dL_count_12 : decode cL_count 12 = .ok (.astore_n 3, 1) := by decide +kernel
theorem dL_count_13 : decode cL_count 13 = .ok (.iconst 1, 1) := by decide +kernel
theorem dL_count_14 : decode cL_count 14 = .ok (.ireturn, 1) := by decide +kernel
theorem dL_count_15 : decode cL_count 15 = .ok (.iconst 0, 1) := by decide +kernel
theorem dL_count_16 : decode cL_count 16 = .ok (.ireturn, 1) := by decide +kernel
theorem dL_school_0 : decode cL_school 0 = .ok (.aload_n 3, 1) := by decide +kernel
theorem dL_school_1 : decode cL_school 1 = .ok (.iconst 0, 1) := by decide +kernel
theorem dL_school_2 : decode cL_school 2 = .ok (.aload_n 0, 1) := by decide +kernel
theorem dL_school_3 : decode cL_school 3 = .ok (.iload_n 1, 1) := by decide +kernel
theorem dL_school_4 : decode cL_school 4 = .ok (.iload_n 2, 1) := by decide +kernel
theorem dL_school_5 : decode cL_school 5 = .ok (.invokevirtual 15, 3) := by decide +kernel
theorem dL_school_8 : decode cL_school 8 = .ok (.i2l, 1) := by decide +kernel
theorem dL_school_9 : decode cL_school 9 = .ok (.lastore, 1) := by decide +kernel
theorem dL_school_10 : decode cL_school 10 = .ok (.goto 11, 3) := by decide +kernel
theorem dL_school_13 : decode cL_school 13 = .ok (.astore 4, 2) := by decide +kernel
theorem dL_school_15 : decode cL_school 15 = .ok (.iconst 1, 1) := by decide +kernel
theorem dL_school_16 : decode cL_school 16 = .ok (.ireturn, 1) := by decide +kernel
theorem dL_school_17 : decode cL_school 17 = .ok (.astore 4, 2) := by decide +kernel
theorem dL_school_19 : decode cL_school 19 = .ok (.iconst 2, 1) := by decide +kernel
theorem dL_school_20 : decode cL_school 20 = .ok (.ireturn, 1) := by decide +kernel
theorem dL_school_21 : decode cL_school 21 = .ok (.iconst 0, 1) := by decide +kernel
theorem dL_school_22 : decode cL_school 22 = .ok (.ireturn, 1) := by decide +kernel
theorem dL_rule_0 : decode cL_rule 0 = .ok (.aload_n 3, 1) := by decide +kernel
theorem dL_rule_1 : decode cL_rule 1 = .ok (.iconst 0, 1) := by decide +kernel
theorem dL_rule_2 : decode cL_rule 2 = .ok (.aload_n 0, 1) := by decide +kernel
theorem dL_rule_3 : decode cL_rule 3 = .ok (.iload_n 1, 1) := by decide +kernel
theorem dL_rule_4 : decode cL_rule 4 = .ok (.iload_n 2, 1) := by decide +kernel
theorem dL_rule_5 : decode cL_rule 5 = .ok (.invokevirtual 21, 3) := by decide +kernel
theorem dL_rule_8 : decode cL_rule 8 = .ok (.i2l, 1) := by decide +kernel
theorem dL_rule_9 : decode cL_rule 9 = .ok (.lastore, 1) := by decide +kernel
theorem dL_rule_10 : decode cL_rule 10 = .ok (.goto 11, 3) := by decide +kernel
theorem dL_rule_13 : decode cL_rule 13 = .ok (.astore 4, 2) := by decide +kernel
theorem dL_rule_15 : decode cL_rule 15 = .ok (.iconst 1, 1) := by decide +kernel
theorem dL_rule_16 : decode cL_rule 16 = .ok (.ireturn, 1) := by decide +kernel
theorem dL_rule_17 : decode cL_rule 17 = .ok (.astore 4, 2) := by decide +kernel
theorem dL_rule_19 : decode cL_rule 19 = .ok (.iconst 2, 1) := by decide +kernel
theorem dL_rule_20 : decode cL_rule 20 = .ok (.ireturn, 1) := by decide +kernel
theorem dL_rule_21 : decode cL_rule 21 = .ok (.iconst 0, 1) := by decide +kernel
theorem dL_rule_22 : decode cL_rule 22 = .ok (.ireturn, 1) := by decide +kernel
theorem dL_child_0 : decode cL_child 0 = .ok (.aload_n 3, 1) := by decide +kernel
theorem dL_child_1 : decode cL_child 1 = .ok (.iconst 0, 1) := by decide +kernel
theorem dL_child_2 : decode cL_child 2 = .ok (.aload_n 0, 1) := by decide +kernel
theorem dL_child_3 : decode cL_child 3 = .ok (.iload_n 1, 1) := by decide +kernel
theorem dL_child_4 : decode cL_child 4 = .ok (.iload_n 2, 1) := by decide +kernel
theorem dL_child_5 : decode cL_child 5 = .ok (.invokevirtual 26, 3) := by decide +kernel
theorem dL_child_8 : decode cL_child 8 = .ok (.i2l, 1) := by decide +kernel
theorem dL_child_9 : decode cL_child 9 = .ok (.lastore, 1) := by decide +kernel
theorem dL_child_10 : decode cL_child 10 = .ok (.goto 11, 3) := by decide +kernel
theorem dL_child_13 : decode cL_child 13 = .ok (.astore 4, 2) := by decide +kernel
theorem dL_child_15 : decode cL_child 15 = .ok (.iconst 1, 1) := by decide +kernel
theorem dL_child_16 : decode cL_child 16 = .ok (.ireturn, 1) := by decide +kernel
theorem dL_child_17 : decode cL_child 17 = .ok (.astore 4, 2) := by decide +kernel
theorem dL_child_19 : decode cL_child 19 = .ok (.iconst 2, 1) := by decide +kernel
theorem dL_child_20 : decode cL_child 20 = .ok (.ireturn, 1) := by decide +kernel
theorem dL_child_21 : decode cL_child 21 = .ok (.iconst 0, 1) := by decide +kernel
theorem dL_child_22 : decode cL_child 22 = .ok (.ireturn, 1) := by decide +kernel
theorem dL_preference_0 : decode cL_preference 0 = .ok (.aload_n 3, 1) := by decide +kernel
theorem dL_preference_1 : decode cL_preference 1 = .ok (.iconst 0, 1) := by decide +kernel
theorem dL_preference_2 : decode cL_preference 2 = .ok (.aload_n 0, 1) := by decide +kernel
theorem dL_preference_3 : decode cL_preference 3 = .ok (.iload_n 1, 1) := by decide +kernel
theorem dL_preference_4 : decode cL_preference 4 = .ok (.iload_n 2, 1) := by decide +kernel
theorem dL_preference_5 : decode cL_preference 5 = .ok (.invokevirtual 29, 3) := by decide +kernel
theorem dL_preference_8 : decode cL_preference 8 = .ok (.i2l, 1) := by decide +kernel
theorem dL_preference_9 : decode cL_preference 9 = .ok (.lastore, 1) := by decide +kernel
theorem dL_preference_10 : decode cL_preference 10 = .ok (.goto 11, 3) := by decide +kernel
theorem dL_preference_13 : decode cL_preference 13 = .ok (.astore 4, 2) := by decide +kernel
theorem dL_preference_15 : decode cL_preference 15 = .ok (.iconst 1, 1) := by decide +kernel
theorem dL_preference_16 : decode cL_preference 16 = .ok (.ireturn, 1) := by decide +kernel
theorem dL_preference_17 : decode cL_preference 17 = .ok (.astore 4, 2) := by decide +kernel
theorem dL_preference_19 : decode cL_preference 19 = .ok (.iconst 2, 1) := by decide +kernel
theorem dL_preference_20 : decode cL_preference 20 = .ok (.ireturn, 1) := by decide +kernel
theorem dL_preference_21 : decode cL_preference 21 = .ok (.iconst 0, 1) := by decide +kernel
theorem dL_preference_22 : decode cL_preference 22 = .ok (.ireturn, 1) := by decide +kernel
theorem dL_placeOf_0 : decode cL_placeOf 0 = .ok (.aload_n 2, 1) := by decide +kernel
theorem dL_placeOf_1 : decode cL_placeOf 1 = .ok (.iconst 0, 1) := by decide +kernel
theorem dL_placeOf_2 : decode cL_placeOf 2 = .ok (.aload_n 0, 1) := by decide +kernel
theorem dL_placeOf_3 : decode cL_placeOf 3 = .ok (.iload_n 1, 1) := by decide +kernel
theorem dL_placeOf_4 : decode cL_placeOf 4 = .ok (.invokevirtual 32, 3) := by decide +kernel
theorem dL_placeOf_7 : decode cL_placeOf 7 = .ok (.i2l, 1) := by decide +kernel
theorem dL_placeOf_8 : decode cL_placeOf 8 = .ok (.lastore, 1) := by decide +kernel
theorem dL_placeOf_9 : decode cL_placeOf 9 = .ok (.goto 6, 3) := by decide +kernel
theorem dL_placeOf_12 : decode cL_placeOf 12 = .ok (.astore_n 3, 1) := by decide +kernel
theorem dL_placeOf_13 : decode cL_placeOf 13 = .ok (.iconst 1, 1) := by decide +kernel
theorem dL_placeOf_14 : decode cL_placeOf 14 = .ok (.ireturn, 1) := by decide +kernel
theorem dL_placeOf_15 : decode cL_placeOf 15 = .ok (.iconst 0, 1) := by decide +kernel
theorem dL_placeOf_16 : decode cL_placeOf 16 = .ok (.ireturn, 1) := by decide +kernel
theorem dL_gotPreference_0 : decode cL_gotPreference 0 = .ok (.aload_n 2, 1) := by decide +kernel
theorem dL_gotPreference_1 : decode cL_gotPreference 1 = .ok (.iconst 0, 1) := by decide +kernel
theorem dL_gotPreference_2 : decode cL_gotPreference 2 = .ok (.aload_n 0, 1) := by decide +kernel
theorem dL_gotPreference_3 : decode cL_gotPreference 3 = .ok (.iload_n 1, 1) := by decide +kernel
theorem dL_gotPreference_4 : decode cL_gotPreference 4 = .ok (.invokevirtual 35, 3) := by decide +kernel
theorem dL_gotPreference_7 : decode cL_gotPreference 7 = .ok (.i2l, 1) := by decide +kernel
theorem dL_gotPreference_8 : decode cL_gotPreference 8 = .ok (.lastore, 1) := by decide +kernel
theorem dL_gotPreference_9 : decode cL_gotPreference 9 = .ok (.goto 6, 3) := by decide +kernel
theorem dL_gotPreference_12 : decode cL_gotPreference 12 = .ok (.astore_n 3, 1) := by decide +kernel
theorem dL_gotPreference_13 : decode cL_gotPreference 13 = .ok (.iconst 1, 1) := by decide +kernel
theorem dL_gotPreference_14 : decode cL_gotPreference 14 = .ok (.ireturn, 1) := by decide +kernel
theorem dL_gotPreference_15 : decode cL_gotPreference 15 = .ok (.iconst 0, 1) := by decide +kernel
theorem dL_gotPreference_16 : decode cL_gotPreference 16 = .ok (.ireturn, 1) := by decide +kernel
theorem dL_meets_0 : decode cL_meets 0 = .ok (.aload 4, 2) := by decide +kernel
theorem dL_meets_2 : decode cL_meets 2 = .ok (.iconst 0, 1) := by decide +kernel
theorem dL_meets_3 : decode cL_meets 3 = .ok (.aload_n 0, 1) := by decide +kernel
theorem dL_meets_4 : decode cL_meets 4 = .ok (.iload_n 1, 1) := by decide +kernel
theorem dL_meets_5 : decode cL_meets 5 = .ok (.iload_n 2, 1) := by decide +kernel
theorem dL_meets_6 : decode cL_meets 6 = .ok (.iload_n 3, 1) := by decide +kernel
theorem dL_meets_7 : decode cL_meets 7 = .ok (.invokevirtual 38, 3) := by decide +kernel
theorem dL_meets_10 : decode cL_meets 10 = .ok (.ifCond .eq 7, 3) := by decide +kernel
theorem dL_meets_13 : decode cL_meets 13 = .ok (.lconst 1, 1) := by decide +kernel
theorem dL_meets_14 : decode cL_meets 14 = .ok (.goto 4, 3) := by decide +kernel
theorem dL_meets_17 : decode cL_meets 17 = .ok (.lconst 0, 1) := by decide +kernel
theorem dL_meets_18 : decode cL_meets 18 = .ok (.lastore, 1) := by decide +kernel
theorem dL_meets_19 : decode cL_meets 19 = .ok (.goto 11, 3) := by decide +kernel
theorem dL_meets_22 : decode cL_meets 22 = .ok (.astore 5, 2) := by decide +kernel
theorem dL_meets_24 : decode cL_meets 24 = .ok (.iconst 1, 1) := by decide +kernel
theorem dL_meets_25 : decode cL_meets 25 = .ok (.ireturn, 1) := by decide +kernel
theorem dL_meets_26 : decode cL_meets 26 = .ok (.astore 5, 2) := by decide +kernel
theorem dL_meets_28 : decode cL_meets 28 = .ok (.iconst 2, 1) := by decide +kernel
theorem dL_meets_29 : decode cL_meets 29 = .ok (.ireturn, 1) := by decide +kernel
theorem dL_meets_30 : decode cL_meets 30 = .ok (.iconst 0, 1) := by decide +kernel
theorem dL_meets_31 : decode cL_meets 31 = .ok (.ireturn, 1) := by decide +kernel
theorem dL_classOf_0 : decode cL_classOf 0 = .ok (.aload_n 3, 1) := by decide +kernel
theorem dL_classOf_1 : decode cL_classOf 1 = .ok (.iconst 0, 1) := by decide +kernel
theorem dL_classOf_2 : decode cL_classOf 2 = .ok (.aload_n 0, 1) := by decide +kernel
theorem dL_classOf_3 : decode cL_classOf 3 = .ok (.iload_n 1, 1) := by decide +kernel
theorem dL_classOf_4 : decode cL_classOf 4 = .ok (.iload_n 2, 1) := by decide +kernel
theorem dL_classOf_5 : decode cL_classOf 5 = .ok (.invokevirtual 42, 3) := by decide +kernel
theorem dL_classOf_8 : decode cL_classOf 8 = .ok (.i2l, 1) := by decide +kernel
theorem dL_classOf_9 : decode cL_classOf 9 = .ok (.lastore, 1) := by decide +kernel
theorem dL_classOf_10 : decode cL_classOf 10 = .ok (.goto 7, 3) := by decide +kernel
theorem dL_classOf_13 : decode cL_classOf 13 = .ok (.astore 4, 2) := by decide +kernel
theorem dL_classOf_15 : decode cL_classOf 15 = .ok (.iconst 1, 1) := by decide +kernel
theorem dL_classOf_16 : decode cL_classOf 16 = .ok (.ireturn, 1) := by decide +kernel
theorem dL_classOf_17 : decode cL_classOf 17 = .ok (.iconst 0, 1) := by decide +kernel
theorem dL_classOf_18 : decode cL_classOf 18 = .ok (.ireturn, 1) := by decide +kernel
theorem dL_distance_0 : decode cL_distance 0 = .ok (.aload_n 3, 1) := by decide +kernel
theorem dL_distance_1 : decode cL_distance 1 = .ok (.iconst 0, 1) := by decide +kernel
theorem dL_distance_2 : decode cL_distance 2 = .ok (.aload_n 0, 1) := by decide +kernel
theorem dL_distance_3 : decode cL_distance 3 = .ok (.iload_n 1, 1) := by decide +kernel
theorem dL_distance_4 : decode cL_distance 4 = .ok (.iload_n 2, 1) := by decide +kernel
theorem dL_distance_5 : decode cL_distance 5 = .ok (.invokevirtual 45, 3) := by decide +kernel
theorem dL_distance_8 : decode cL_distance 8 = .ok (.i2l, 1) := by decide +kernel
theorem dL_distance_9 : decode cL_distance 9 = .ok (.lastore, 1) := by decide +kernel
theorem dL_distance_10 : decode cL_distance 10 = .ok (.goto 7, 3) := by decide +kernel
theorem dL_distance_13 : decode cL_distance 13 = .ok (.astore 4, 2) := by decide +kernel
theorem dL_distance_15 : decode cL_distance 15 = .ok (.iconst 1, 1) := by decide +kernel
theorem dL_distance_16 : decode cL_distance 16 = .ok (.ireturn, 1) := by decide +kernel
theorem dL_distance_17 : decode cL_distance 17 = .ok (.iconst 0, 1) := by decide +kernel
theorem dL_distance_18 : decode cL_distance 18 = .ok (.ireturn, 1) := by decide +kernel
theorem dL_comesFirst_0 : decode cL_comesFirst 0 = .ok (.aload 4, 2) := by decide +kernel
theorem dL_comesFirst_2 : decode cL_comesFirst 2 = .ok (.iconst 0, 1) := by decide +kernel
theorem dL_comesFirst_3 : decode cL_comesFirst 3 = .ok (.aload_n 0, 1) := by decide +kernel
theorem dL_comesFirst_4 : decode cL_comesFirst 4 = .ok (.iload_n 1, 1) := by decide +kernel
theorem dL_comesFirst_5 : decode cL_comesFirst 5 = .ok (.iload_n 2, 1) := by decide +kernel
theorem dL_comesFirst_6 : decode cL_comesFirst 6 = .ok (.iload_n 3, 1) := by decide +kernel
theorem dL_comesFirst_7 : decode cL_comesFirst 7 = .ok (.invokevirtual 48, 3) := by decide +kernel
theorem dL_comesFirst_10 : decode cL_comesFirst 10 = .ok (.ifCond .eq 7, 3) := by decide +kernel
theorem dL_comesFirst_13 : decode cL_comesFirst 13 = .ok (.lconst 1, 1) := by decide +kernel
theorem dL_comesFirst_14 : decode cL_comesFirst 14 = .ok (.goto 4, 3) := by decide +kernel
theorem dL_comesFirst_17 : decode cL_comesFirst 17 = .ok (.lconst 0, 1) := by decide +kernel
theorem dL_comesFirst_18 : decode cL_comesFirst 18 = .ok (.lastore, 1) := by decide +kernel
theorem dL_comesFirst_19 : decode cL_comesFirst 19 = .ok (.goto 7, 3) := by decide +kernel
theorem dL_comesFirst_22 : decode cL_comesFirst 22 = .ok (.astore 5, 2) := by decide +kernel
theorem dL_comesFirst_24 : decode cL_comesFirst 24 = .ok (.iconst 1, 1) := by decide +kernel
theorem dL_comesFirst_25 : decode cL_comesFirst 25 = .ok (.ireturn, 1) := by decide +kernel
theorem dL_comesFirst_26 : decode cL_comesFirst 26 = .ok (.iconst 0, 1) := by decide +kernel
theorem dL_comesFirst_27 : decode cL_comesFirst 27 = .ok (.ireturn, 1) := by decide +kernel
theorem dL_holder_0 : decode cL_holder 0 = .ok (.aload_n 3, 1) := by decide +kernel
theorem dL_holder_1 : decode cL_holder 1 = .ok (.iconst 0, 1) := by decide +kernel
theorem dL_holder_2 : decode cL_holder 2 = .ok (.aload_n 0, 1) := by decide +kernel
theorem dL_holder_3 : decode cL_holder 3 = .ok (.iload_n 1, 1) := by decide +kernel
theorem dL_holder_4 : decode cL_holder 4 = .ok (.iload_n 2, 1) := by decide +kernel
theorem dL_holder_5 : decode cL_holder 5 = .ok (.invokevirtual 51, 3) := by decide +kernel
theorem dL_holder_8 : decode cL_holder 8 = .ok (.i2l, 1) := by decide +kernel
theorem dL_holder_9 : decode cL_holder 9 = .ok (.lastore, 1) := by decide +kernel
theorem dL_holder_10 : decode cL_holder 10 = .ok (.goto 11, 3) := by decide +kernel
theorem dL_holder_13 : decode cL_holder 13 = .ok (.astore 4, 2) := by decide +kernel
theorem dL_holder_15 : decode cL_holder 15 = .ok (.iconst 1, 1) := by decide +kernel
theorem dL_holder_16 : decode cL_holder 16 = .ok (.ireturn, 1) := by decide +kernel
theorem dL_holder_17 : decode cL_holder 17 = .ok (.astore 4, 2) := by decide +kernel
theorem dL_holder_19 : decode cL_holder 19 = .ok (.iconst 2, 1) := by decide +kernel
theorem dL_holder_20 : decode cL_holder 20 = .ok (.ireturn, 1) := by decide +kernel
theorem dL_holder_21 : decode cL_holder 21 = .ok (.iconst 0, 1) := by decide +kernel
theorem dL_holder_22 : decode cL_holder 22 = .ok (.ireturn, 1) := by decide +kernel
theorem dL_waiting_0 : decode cL_waiting 0 = .ok (.aload_n 3, 1) := by decide +kernel
theorem dL_waiting_1 : decode cL_waiting 1 = .ok (.iconst 0, 1) := by decide +kernel
theorem dL_waiting_2 : decode cL_waiting 2 = .ok (.aload_n 0, 1) := by decide +kernel
theorem dL_waiting_3 : decode cL_waiting 3 = .ok (.iload_n 1, 1) := by decide +kernel
theorem dL_waiting_4 : decode cL_waiting 4 = .ok (.iload_n 2, 1) := by decide +kernel
theorem dL_waiting_5 : decode cL_waiting 5 = .ok (.invokevirtual 54, 3) := by decide +kernel
theorem dL_waiting_8 : decode cL_waiting 8 = .ok (.i2l, 1) := by decide +kernel
theorem dL_waiting_9 : decode cL_waiting 9 = .ok (.lastore, 1) := by decide +kernel
theorem dL_waiting_10 : decode cL_waiting 10 = .ok (.goto 11, 3) := by decide +kernel
theorem dL_waiting_13 : decode cL_waiting 13 = .ok (.astore 4, 2) := by decide +kernel
theorem dL_waiting_15 : decode cL_waiting 15 = .ok (.iconst 1, 1) := by decide +kernel
theorem dL_waiting_16 : decode cL_waiting 16 = .ok (.ireturn, 1) := by decide +kernel
theorem dL_waiting_17 : decode cL_waiting 17 = .ok (.astore 4, 2) := by decide +kernel
theorem dL_waiting_19 : decode cL_waiting 19 = .ok (.iconst 2, 1) := by decide +kernel
theorem dL_waiting_20 : decode cL_waiting 20 = .ok (.ireturn, 1) := by decide +kernel
theorem dL_waiting_21 : decode cL_waiting 21 = .ok (.iconst 0, 1) := by decide +kernel
theorem dL_waiting_22 : decode cL_waiting 22 = .ok (.ireturn, 1) := by decide +kernel
theorem dL_waitingPlace_0 : decode cL_waitingPlace 0 = .ok (.aload_n 3, 1) := by decide +kernel
theorem dL_waitingPlace_1 : decode cL_waitingPlace 1 = .ok (.iconst 0, 1) := by decide +kernel
theorem dL_waitingPlace_2 : decode cL_waitingPlace 2 = .ok (.aload_n 0, 1) := by decide +kernel
theorem dL_waitingPlace_3 : decode cL_waitingPlace 3 = .ok (.iload_n 1, 1) := by decide +kernel
theorem dL_waitingPlace_4 : decode cL_waitingPlace 4 = .ok (.iload_n 2, 1) := by decide +kernel
theorem dL_waitingPlace_5 : decode cL_waitingPlace 5 = .ok (.invokevirtual 57, 3) := by decide +kernel
theorem dL_waitingPlace_8 : decode cL_waitingPlace 8 = .ok (.i2l, 1) := by decide +kernel
theorem dL_waitingPlace_9 : decode cL_waitingPlace 9 = .ok (.lastore, 1) := by decide +kernel
theorem dL_waitingPlace_10 : decode cL_waitingPlace 10 = .ok (.goto 7, 3) := by decide +kernel
theorem dL_waitingPlace_13 : decode cL_waitingPlace 13 = .ok (.astore 4, 2) := by decide +kernel
theorem dL_waitingPlace_15 : decode cL_waitingPlace 15 = .ok (.iconst 1, 1) := by decide +kernel
theorem dL_waitingPlace_16 : decode cL_waitingPlace 16 = .ok (.ireturn, 1) := by decide +kernel
theorem dL_waitingPlace_17 : decode cL_waitingPlace 17 = .ok (.iconst 0, 1) := by decide +kernel
theorem dL_waitingPlace_18 : decode cL_waitingPlace 18 = .ok (.ireturn, 1) := by decide +kernel
theorem dL_hasClaim_0 : decode cL_hasClaim 0 = .ok (.aload_n 3, 1) := by decide +kernel
theorem dL_hasClaim_1 : decode cL_hasClaim 1 = .ok (.iconst 0, 1) := by decide +kernel
theorem dL_hasClaim_2 : decode cL_hasClaim 2 = .ok (.aload_n 0, 1) := by decide +kernel
theorem dL_hasClaim_3 : decode cL_hasClaim 3 = .ok (.iload_n 1, 1) := by decide +kernel
theorem dL_hasClaim_4 : decode cL_hasClaim 4 = .ok (.iload_n 2, 1) := by decide +kernel
theorem dL_hasClaim_5 : decode cL_hasClaim 5 = .ok (.invokevirtual 60, 3) := by decide +kernel
theorem dL_hasClaim_8 : decode cL_hasClaim 8 = .ok (.ifCond .eq 7, 3) := by decide +kernel
theorem dL_hasClaim_11 : decode cL_hasClaim 11 = .ok (.lconst 1, 1) := by decide +kernel
theorem dL_hasClaim_12 : decode cL_hasClaim 12 = .ok (.goto 4, 3) := by decide +kernel
theorem dL_hasClaim_15 : decode cL_hasClaim 15 = .ok (.lconst 0, 1) := by decide +kernel
theorem dL_hasClaim_16 : decode cL_hasClaim 16 = .ok (.lastore, 1) := by decide +kernel
theorem dL_hasClaim_17 : decode cL_hasClaim 17 = .ok (.goto 7, 3) := by decide +kernel
theorem dL_hasClaim_20 : decode cL_hasClaim 20 = .ok (.astore 4, 2) := by decide +kernel
theorem dL_hasClaim_22 : decode cL_hasClaim 22 = .ok (.iconst 1, 1) := by decide +kernel
theorem dL_hasClaim_23 : decode cL_hasClaim 23 = .ok (.ireturn, 1) := by decide +kernel
theorem dL_hasClaim_24 : decode cL_hasClaim 24 = .ok (.iconst 0, 1) := by decide +kernel
theorem dL_hasClaim_25 : decode cL_hasClaim 25 = .ok (.ireturn, 1) := by decide +kernel
theorem dL_roundOf_0 : decode cL_roundOf 0 = .ok (.aload_n 2, 1) := by decide +kernel
theorem dL_roundOf_1 : decode cL_roundOf 1 = .ok (.iconst 0, 1) := by decide +kernel
theorem dL_roundOf_2 : decode cL_roundOf 2 = .ok (.aload_n 0, 1) := by decide +kernel
theorem dL_roundOf_3 : decode cL_roundOf 3 = .ok (.iload_n 1, 1) := by decide +kernel
theorem dL_roundOf_4 : decode cL_roundOf 4 = .ok (.invokevirtual 64, 3) := by decide +kernel
theorem dL_roundOf_7 : decode cL_roundOf 7 = .ok (.i2l, 1) := by decide +kernel
theorem dL_roundOf_8 : decode cL_roundOf 8 = .ok (.lastore, 1) := by decide +kernel
theorem dL_roundOf_9 : decode cL_roundOf 9 = .ok (.goto 6, 3) := by decide +kernel
theorem dL_roundOf_12 : decode cL_roundOf 12 = .ok (.astore_n 3, 1) := by decide +kernel
theorem dL_roundOf_13 : decode cL_roundOf 13 = .ok (.iconst 1, 1) := by decide +kernel
theorem dL_roundOf_14 : decode cL_roundOf 14 = .ok (.ireturn, 1) := by decide +kernel
theorem dL_roundOf_15 : decode cL_roundOf 15 = .ok (.iconst 0, 1) := by decide +kernel
theorem dL_roundOf_16 : decode cL_roundOf 16 = .ok (.ireturn, 1) := by decide +kernel
theorem dL_addChild_0 : decode cL_addChild 0 = .ok (.aload 6, 2) := by decide +kernel
theorem dL_addChild_2 : decode cL_addChild 2 = .ok (.iconst 0, 1) := by decide +kernel
theorem dL_addChild_3 : decode cL_addChild 3 = .ok (.aload_n 0, 1) := by decide +kernel
theorem dL_addChild_4 : decode cL_addChild 4 = .ok (.iload_n 1, 1) := by decide +kernel
theorem dL_addChild_5 : decode cL_addChild 5 = .ok (.iload_n 2, 1) := by decide +kernel
theorem dL_addChild_6 : decode cL_addChild 6 = .ok (.iload_n 3, 1) := by decide +kernel
theorem dL_addChild_7 : decode cL_addChild 7 = .ok (.iload 4, 2) := by decide +kernel
theorem dL_addChild_9 : decode cL_addChild 9 = .ok (.iload 5, 2) := by decide +kernel
theorem dL_addChild_11 : decode cL_addChild 11 = .ok (.invokevirtual 67, 3) := by decide +kernel
theorem dL_addChild_14 : decode cL_addChild 14 = .ok (.i2l, 1) := by decide +kernel
theorem dL_addChild_15 : decode cL_addChild 15 = .ok (.lastore, 1) := by decide +kernel
theorem dL_addChild_16 : decode cL_addChild 16 = .ok (.goto 11, 3) := by decide +kernel
theorem dL_addChild_19 : decode cL_addChild 19 = .ok (.astore 7, 2) := by decide +kernel
theorem dL_addChild_21 : decode cL_addChild 21 = .ok (.iconst 1, 1) := by decide +kernel
theorem dL_addChild_22 : decode cL_addChild 22 = .ok (.ireturn, 1) := by decide +kernel
theorem dL_addChild_23 : decode cL_addChild 23 = .ok (.astore 7, 2) := by decide +kernel
theorem dL_addChild_25 : decode cL_addChild 25 = .ok (.iconst 2, 1) := by decide +kernel
theorem dL_addChild_26 : decode cL_addChild 26 = .ok (.ireturn, 1) := by decide +kernel
theorem dL_addChild_27 : decode cL_addChild 27 = .ok (.iconst 0, 1) := by decide +kernel
theorem dL_addChild_28 : decode cL_addChild 28 = .ok (.ireturn, 1) := by decide +kernel
theorem dL_withdraw_0 : decode cL_withdraw 0 = .ok (.aload_n 2, 1) := by decide +kernel
theorem dL_withdraw_1 : decode cL_withdraw 1 = .ok (.iconst 0, 1) := by decide +kernel
theorem dL_withdraw_2 : decode cL_withdraw 2 = .ok (.aload_n 0, 1) := by decide +kernel
theorem dL_withdraw_3 : decode cL_withdraw 3 = .ok (.iload_n 1, 1) := by decide +kernel
theorem dL_withdraw_4 : decode cL_withdraw 4 = .ok (.invokevirtual 73, 3) := by decide +kernel
theorem dL_withdraw_7 : decode cL_withdraw 7 = .ok (.i2l, 1) := by decide +kernel
theorem dL_withdraw_8 : decode cL_withdraw 8 = .ok (.lastore, 1) := by decide +kernel
theorem dL_withdraw_9 : decode cL_withdraw 9 = .ok (.goto 9, 3) := by decide +kernel
theorem dL_withdraw_12 : decode cL_withdraw 12 = .ok (.astore_n 3, 1) := by decide +kernel
theorem dL_withdraw_13 : decode cL_withdraw 13 = .ok (.iconst 1, 1) := by decide +kernel
theorem dL_withdraw_14 : decode cL_withdraw 14 = .ok (.ireturn, 1) := by decide +kernel
theorem dL_withdraw_15 : decode cL_withdraw 15 = .ok (.astore_n 3, 1) := by decide +kernel
theorem dL_withdraw_16 : decode cL_withdraw 16 = .ok (.iconst 2, 1) := by decide +kernel
theorem dL_withdraw_17 : decode cL_withdraw 17 = .ok (.ireturn, 1) := by decide +kernel
theorem dL_withdraw_18 : decode cL_withdraw 18 = .ok (.iconst 0, 1) := by decide +kernel
theorem dL_withdraw_19 : decode cL_withdraw 19 = .ok (.ireturn, 1) := by decide +kernel
theorem dL_giveBack_0 : decode cL_giveBack 0 = .ok (.aload_n 2, 1) := by decide +kernel
theorem dL_giveBack_1 : decode cL_giveBack 1 = .ok (.iconst 0, 1) := by decide +kernel
theorem dL_giveBack_2 : decode cL_giveBack 2 = .ok (.aload_n 0, 1) := by decide +kernel
theorem dL_giveBack_3 : decode cL_giveBack 3 = .ok (.iload_n 1, 1) := by decide +kernel
theorem dL_giveBack_4 : decode cL_giveBack 4 = .ok (.invokevirtual 76, 3) := by decide +kernel
theorem dL_giveBack_7 : decode cL_giveBack 7 = .ok (.i2l, 1) := by decide +kernel
theorem dL_giveBack_8 : decode cL_giveBack 8 = .ok (.lastore, 1) := by decide +kernel
theorem dL_giveBack_9 : decode cL_giveBack 9 = .ok (.goto 9, 3) := by decide +kernel
theorem dL_giveBack_12 : decode cL_giveBack 12 = .ok (.astore_n 3, 1) := by decide +kernel
theorem dL_giveBack_13 : decode cL_giveBack 13 = .ok (.iconst 1, 1) := by decide +kernel
theorem dL_giveBack_14 : decode cL_giveBack 14 = .ok (.ireturn, 1) := by decide +kernel
theorem dL_giveBack_15 : decode cL_giveBack 15 = .ok (.astore_n 3, 1) := by decide +kernel
theorem dL_giveBack_16 : decode cL_giveBack 16 = .ok (.iconst 2, 1) := by decide +kernel
theorem dL_giveBack_17 : decode cL_giveBack 17 = .ok (.ireturn, 1) := by decide +kernel
theorem dL_giveBack_18 : decode cL_giveBack 18 = .ok (.iconst 0, 1) := by decide +kernel
theorem dL_giveBack_19 : decode cL_giveBack 19 = .ok (.ireturn, 1) := by decide +kernel
theorem dL_moveHome_0 : decode cL_moveHome 0 = .ok (.aload 4, 2) := by decide +kernel
theorem dL_moveHome_2 : decode cL_moveHome 2 = .ok (.iconst 0, 1) := by decide +kernel
theorem dL_moveHome_3 : decode cL_moveHome 3 = .ok (.aload_n 0, 1) := by decide +kernel
theorem dL_moveHome_4 : decode cL_moveHome 4 = .ok (.iload_n 1, 1) := by decide +kernel
theorem dL_moveHome_5 : decode cL_moveHome 5 = .ok (.iload_n 2, 1) := by decide +kernel
theorem dL_moveHome_6 : decode cL_moveHome 6 = .ok (.iload_n 3, 1) := by decide +kernel
theorem dL_moveHome_7 : decode cL_moveHome 7 = .ok (.invokevirtual 79, 3) := by decide +kernel
theorem dL_moveHome_10 : decode cL_moveHome 10 = .ok (.i2l, 1) := by decide +kernel
theorem dL_moveHome_11 : decode cL_moveHome 11 = .ok (.lastore, 1) := by decide +kernel
theorem dL_moveHome_12 : decode cL_moveHome 12 = .ok (.goto 11, 3) := by decide +kernel
theorem dL_moveHome_15 : decode cL_moveHome 15 = .ok (.astore 5, 2) := by decide +kernel
theorem dL_moveHome_17 : decode cL_moveHome 17 = .ok (.iconst 1, 1) := by decide +kernel
theorem dL_moveHome_18 : decode cL_moveHome 18 = .ok (.ireturn, 1) := by decide +kernel
theorem dL_moveHome_19 : decode cL_moveHome 19 = .ok (.astore 5, 2) := by decide +kernel
theorem dL_moveHome_21 : decode cL_moveHome 21 = .ok (.iconst 2, 1) := by decide +kernel
theorem dL_moveHome_22 : decode cL_moveHome 22 = .ok (.ireturn, 1) := by decide +kernel
theorem dL_moveHome_23 : decode cL_moveHome 23 = .ok (.iconst 0, 1) := by decide +kernel
theorem dL_moveHome_24 : decode cL_moveHome 24 = .ok (.ireturn, 1) := by decide +kernel
theorem dL_setCapacity_0 : decode cL_setCapacity 0 = .ok (.aload_n 3, 1) := by decide +kernel
theorem dL_setCapacity_1 : decode cL_setCapacity 1 = .ok (.iconst 0, 1) := by decide +kernel
theorem dL_setCapacity_2 : decode cL_setCapacity 2 = .ok (.aload_n 0, 1) := by decide +kernel
theorem dL_setCapacity_3 : decode cL_setCapacity 3 = .ok (.iload_n 1, 1) := by decide +kernel
theorem dL_setCapacity_4 : decode cL_setCapacity 4 = .ok (.iload_n 2, 1) := by decide +kernel
theorem dL_setCapacity_5 : decode cL_setCapacity 5 = .ok (.invokevirtual 83, 3) := by decide +kernel
theorem dL_setCapacity_8 : decode cL_setCapacity 8 = .ok (.i2l, 1) := by decide +kernel
theorem dL_setCapacity_9 : decode cL_setCapacity 9 = .ok (.lastore, 1) := by decide +kernel
theorem dL_setCapacity_10 : decode cL_setCapacity 10 = .ok (.goto 11, 3) := by decide +kernel
theorem dL_setCapacity_13 : decode cL_setCapacity 13 = .ok (.astore 4, 2) := by decide +kernel
theorem dL_setCapacity_15 : decode cL_setCapacity 15 = .ok (.iconst 1, 1) := by decide +kernel
theorem dL_setCapacity_16 : decode cL_setCapacity 16 = .ok (.ireturn, 1) := by decide +kernel
theorem dL_setCapacity_17 : decode cL_setCapacity 17 = .ok (.astore 4, 2) := by decide +kernel
theorem dL_setCapacity_19 : decode cL_setCapacity 19 = .ok (.iconst 2, 1) := by decide +kernel
theorem dL_setCapacity_20 : decode cL_setCapacity 20 = .ok (.ireturn, 1) := by decide +kernel
theorem dL_setCapacity_21 : decode cL_setCapacity 21 = .ok (.iconst 0, 1) := by decide +kernel
theorem dL_setCapacity_22 : decode cL_setCapacity 22 = .ok (.ireturn, 1) := by decide +kernel
theorem dL_appeal_0 : decode cL_appeal 0 = .ok (.aload_n 3, 1) := by decide +kernel
theorem dL_appeal_1 : decode cL_appeal 1 = .ok (.iconst 0, 1) := by decide +kernel
theorem dL_appeal_2 : decode cL_appeal 2 = .ok (.aload_n 0, 1) := by decide +kernel
theorem dL_appeal_3 : decode cL_appeal 3 = .ok (.iload_n 1, 1) := by decide +kernel
theorem dL_appeal_4 : decode cL_appeal 4 = .ok (.iload_n 2, 1) := by decide +kernel
theorem dL_appeal_5 : decode cL_appeal 5 = .ok (.invokevirtual 86, 3) := by decide +kernel
theorem dL_appeal_8 : decode cL_appeal 8 = .ok (.i2l, 1) := by decide +kernel
theorem dL_appeal_9 : decode cL_appeal 9 = .ok (.lastore, 1) := by decide +kernel
theorem dL_appeal_10 : decode cL_appeal 10 = .ok (.goto 11, 3) := by decide +kernel
theorem dL_appeal_13 : decode cL_appeal 13 = .ok (.astore 4, 2) := by decide +kernel
theorem dL_appeal_15 : decode cL_appeal 15 = .ok (.iconst 1, 1) := by decide +kernel
theorem dL_appeal_16 : decode cL_appeal 16 = .ok (.ireturn, 1) := by decide +kernel
theorem dL_appeal_17 : decode cL_appeal 17 = .ok (.astore 4, 2) := by decide +kernel
theorem dL_appeal_19 : decode cL_appeal 19 = .ok (.iconst 2, 1) := by decide +kernel
theorem dL_appeal_20 : decode cL_appeal 20 = .ok (.ireturn, 1) := by decide +kernel
theorem dL_appeal_21 : decode cL_appeal 21 = .ok (.iconst 0, 1) := by decide +kernel
theorem dL_appeal_22 : decode cL_appeal 22 = .ok (.ireturn, 1) := by decide +kernel
theorem dL_lastHolder_0 : decode cL_lastHolder 0 = .ok (.aload_n 2, 1) := by decide +kernel
theorem dL_lastHolder_1 : decode cL_lastHolder 1 = .ok (.iconst 0, 1) := by decide +kernel
theorem dL_lastHolder_2 : decode cL_lastHolder 2 = .ok (.aload_n 0, 1) := by decide +kernel
theorem dL_lastHolder_3 : decode cL_lastHolder 3 = .ok (.iload_n 1, 1) := by decide +kernel
theorem dL_lastHolder_4 : decode cL_lastHolder 4 = .ok (.invokevirtual 89, 3) := by decide +kernel
theorem dL_lastHolder_7 : decode cL_lastHolder 7 = .ok (.i2l, 1) := by decide +kernel
theorem dL_lastHolder_8 : decode cL_lastHolder 8 = .ok (.lastore, 1) := by decide +kernel
theorem dL_lastHolder_9 : decode cL_lastHolder 9 = .ok (.goto 6, 3) := by decide +kernel
theorem dL_lastHolder_12 : decode cL_lastHolder 12 = .ok (.astore_n 3, 1) := by decide +kernel
theorem dL_lastHolder_13 : decode cL_lastHolder 13 = .ok (.iconst 1, 1) := by decide +kernel
theorem dL_lastHolder_14 : decode cL_lastHolder 14 = .ok (.ireturn, 1) := by decide +kernel
theorem dL_lastHolder_15 : decode cL_lastHolder 15 = .ok (.iconst 0, 1) := by decide +kernel
theorem dL_lastHolder_16 : decode cL_lastHolder 16 = .ok (.ireturn, 1) := by decide +kernel
theorem dL_way_0 : decode cL_way 0 = .ok (.aload_n 2, 1) := by decide +kernel
theorem dL_way_1 : decode cL_way 1 = .ok (.iconst 0, 1) := by decide +kernel
theorem dL_way_2 : decode cL_way 2 = .ok (.aload_n 0, 1) := by decide +kernel
theorem dL_way_3 : decode cL_way 3 = .ok (.iload_n 1, 1) := by decide +kernel
theorem dL_way_4 : decode cL_way 4 = .ok (.invokevirtual 92, 3) := by decide +kernel
theorem dL_way_7 : decode cL_way 7 = .ok (.f2d, 1) := by decide +kernel
theorem dL_way_8 : decode cL_way 8 = .ok (.dastore, 1) := by decide +kernel
theorem dL_way_9 : decode cL_way 9 = .ok (.goto 6, 3) := by decide +kernel
theorem dL_way_12 : decode cL_way 12 = .ok (.astore_n 3, 1) := by decide +kernel
theorem dL_way_13 : decode cL_way 13 = .ok (.iconst 1, 1) := by decide +kernel
theorem dL_way_14 : decode cL_way 14 = .ok (.ireturn, 1) := by decide +kernel
theorem dL_way_15 : decode cL_way 15 = .ok (.iconst 0, 1) := by decide +kernel
theorem dL_way_16 : decode cL_way 16 = .ok (.ireturn, 1) := by decide +kernel
theorem dL_wanted_0 : decode cL_wanted 0 = .ok (.aload_n 3, 1) := by decide +kernel
theorem dL_wanted_1 : decode cL_wanted 1 = .ok (.iconst 0, 1) := by decide +kernel
theorem dL_wanted_2 : decode cL_wanted 2 = .ok (.aload_n 0, 1) := by decide +kernel
theorem dL_wanted_3 : decode cL_wanted 3 = .ok (.iload_n 1, 1) := by decide +kernel
theorem dL_wanted_4 : decode cL_wanted 4 = .ok (.iload_n 2, 1) := by decide +kernel
theorem dL_wanted_5 : decode cL_wanted 5 = .ok (.invokevirtual 96, 3) := by decide +kernel
theorem dL_wanted_8 : decode cL_wanted 8 = .ok (.i2l, 1) := by decide +kernel
theorem dL_wanted_9 : decode cL_wanted 9 = .ok (.lastore, 1) := by decide +kernel
theorem dL_wanted_10 : decode cL_wanted 10 = .ok (.goto 7, 3) := by decide +kernel
theorem dL_wanted_13 : decode cL_wanted 13 = .ok (.astore 4, 2) := by decide +kernel
theorem dL_wanted_15 : decode cL_wanted 15 = .ok (.iconst 1, 1) := by decide +kernel
theorem dL_wanted_16 : decode cL_wanted 16 = .ok (.ireturn, 1) := by decide +kernel
theorem dL_wanted_17 : decode cL_wanted 17 = .ok (.iconst 0, 1) := by decide +kernel
theorem dL_wanted_18 : decode cL_wanted 18 = .ok (.ireturn, 1) := by decide +kernel
theorem dL_inZone_0 : decode cL_inZone 0 = .ok (.aload_n 2, 1) := by decide +kernel
theorem dL_inZone_1 : decode cL_inZone 1 = .ok (.iconst 0, 1) := by decide +kernel
theorem dL_inZone_2 : decode cL_inZone 2 = .ok (.aload_n 0, 1) := by decide +kernel
theorem dL_inZone_3 : decode cL_inZone 3 = .ok (.iload_n 1, 1) := by decide +kernel
theorem dL_inZone_4 : decode cL_inZone 4 = .ok (.invokevirtual 99, 3) := by decide +kernel
theorem dL_inZone_7 : decode cL_inZone 7 = .ok (.i2l, 1) := by decide +kernel
theorem dL_inZone_8 : decode cL_inZone 8 = .ok (.lastore, 1) := by decide +kernel
theorem dL_inZone_9 : decode cL_inZone 9 = .ok (.goto 6, 3) := by decide +kernel
theorem dL_inZone_12 : decode cL_inZone 12 = .ok (.astore_n 3, 1) := by decide +kernel
theorem dL_inZone_13 : decode cL_inZone 13 = .ok (.iconst 1, 1) := by decide +kernel
theorem dL_inZone_14 : decode cL_inZone 14 = .ok (.ireturn, 1) := by decide +kernel
theorem dL_inZone_15 : decode cL_inZone 15 = .ok (.iconst 0, 1) := by decide +kernel
theorem dL_inZone_16 : decode cL_inZone 16 = .ok (.ireturn, 1) := by decide +kernel
theorem dL_cutoff_0 : decode cL_cutoff 0 = .ok (.aload_n 3, 1) := by decide +kernel
theorem dL_cutoff_1 : decode cL_cutoff 1 = .ok (.iconst 0, 1) := by decide +kernel
theorem dL_cutoff_2 : decode cL_cutoff 2 = .ok (.aload_n 0, 1) := by decide +kernel
theorem dL_cutoff_3 : decode cL_cutoff 3 = .ok (.iload_n 1, 1) := by decide +kernel
theorem dL_cutoff_4 : decode cL_cutoff 4 = .ok (.iload_n 2, 1) := by decide +kernel
theorem dL_cutoff_5 : decode cL_cutoff 5 = .ok (.invokevirtual 102, 3) := by decide +kernel
theorem dL_cutoff_8 : decode cL_cutoff 8 = .ok (.i2l, 1) := by decide +kernel
theorem dL_cutoff_9 : decode cL_cutoff 9 = .ok (.lastore, 1) := by decide +kernel
theorem dL_cutoff_10 : decode cL_cutoff 10 = .ok (.goto 11, 3) := by decide +kernel
theorem dL_cutoff_13 : decode cL_cutoff 13 = .ok (.astore 4, 2) := by decide +kernel
theorem dL_cutoff_15 : decode cL_cutoff 15 = .ok (.iconst 1, 1) := by decide +kernel
theorem dL_cutoff_16 : decode cL_cutoff 16 = .ok (.ireturn, 1) := by decide +kernel
theorem dL_cutoff_17 : decode cL_cutoff 17 = .ok (.astore 4, 2) := by decide +kernel
theorem dL_cutoff_19 : decode cL_cutoff 19 = .ok (.iconst 2, 1) := by decide +kernel
theorem dL_cutoff_20 : decode cL_cutoff 20 = .ok (.ireturn, 1) := by decide +kernel
theorem dL_cutoff_21 : decode cL_cutoff 21 = .ok (.iconst 0, 1) := by decide +kernel
theorem dL_cutoff_22 : decode cL_cutoff 22 = .ok (.ireturn, 1) := by decide +kernel
theorem dL_nearest_0 : decode cL_nearest 0 = .ok (.aload_n 2, 1) := by decide +kernel
theorem dL_nearest_1 : decode cL_nearest 1 = .ok (.iconst 0, 1) := by decide +kernel
theorem dL_nearest_2 : decode cL_nearest 2 = .ok (.aload_n 0, 1) := by decide +kernel
theorem dL_nearest_3 : decode cL_nearest 3 = .ok (.iload_n 1, 1) := by decide +kernel
theorem dL_nearest_4 : decode cL_nearest 4 = .ok (.invokevirtual 105, 3) := by decide +kernel
theorem dL_nearest_7 : decode cL_nearest 7 = .ok (.i2l, 1) := by decide +kernel
theorem dL_nearest_8 : decode cL_nearest 8 = .ok (.lastore, 1) := by decide +kernel
theorem dL_nearest_9 : decode cL_nearest 9 = .ok (.goto 6, 3) := by decide +kernel
theorem dL_nearest_12 : decode cL_nearest 12 = .ok (.astore_n 3, 1) := by decide +kernel
theorem dL_nearest_13 : decode cL_nearest 13 = .ok (.iconst 1, 1) := by decide +kernel
theorem dL_nearest_14 : decode cL_nearest 14 = .ok (.ireturn, 1) := by decide +kernel
theorem dL_nearest_15 : decode cL_nearest 15 = .ok (.iconst 0, 1) := by decide +kernel
theorem dL_nearest_16 : decode cL_nearest 16 = .ok (.ireturn, 1) := by decide +kernel
theorem dL_chainOf_0 : decode cL_chainOf 0 = .ok (.aload_n 2, 1) := by decide +kernel
theorem dL_chainOf_1 : decode cL_chainOf 1 = .ok (.iconst 0, 1) := by decide +kernel
theorem dL_chainOf_2 : decode cL_chainOf 2 = .ok (.aload_n 0, 1) := by decide +kernel
theorem dL_chainOf_3 : decode cL_chainOf 3 = .ok (.iload_n 1, 1) := by decide +kernel
theorem dL_chainOf_4 : decode cL_chainOf 4 = .ok (.invokevirtual 108, 3) := by decide +kernel
theorem dL_chainOf_7 : decode cL_chainOf 7 = .ok (.i2l, 1) := by decide +kernel
theorem dL_chainOf_8 : decode cL_chainOf 8 = .ok (.lastore, 1) := by decide +kernel
theorem dL_chainOf_9 : decode cL_chainOf 9 = .ok (.goto 6, 3) := by decide +kernel
theorem dL_chainOf_12 : decode cL_chainOf 12 = .ok (.astore_n 3, 1) := by decide +kernel
theorem dL_chainOf_13 : decode cL_chainOf 13 = .ok (.iconst 1, 1) := by decide +kernel
theorem dL_chainOf_14 : decode cL_chainOf 14 = .ok (.ireturn, 1) := by decide +kernel
theorem dL_chainOf_15 : decode cL_chainOf 15 = .ok (.iconst 0, 1) := by decide +kernel
theorem dL_chainOf_16 : decode cL_chainOf 16 = .ok (.ireturn, 1) := by decide +kernel
theorem dL_tradePartner_0 : decode cL_tradePartner 0 = .ok (.aload_n 2, 1) := by decide +kernel
theorem dL_tradePartner_1 : decode cL_tradePartner 1 = .ok (.iconst 0, 1) := by decide +kernel
theorem dL_tradePartner_2 : decode cL_tradePartner 2 = .ok (.aload_n 0, 1) := by decide +kernel
theorem dL_tradePartner_3 : decode cL_tradePartner 3 = .ok (.iload_n 1, 1) := by decide +kernel
theorem dL_tradePartner_4 : decode cL_tradePartner 4 = .ok (.invokevirtual 111, 3) := by decide +kernel
theorem dL_tradePartner_7 : decode cL_tradePartner 7 = .ok (.i2l, 1) := by decide +kernel
theorem dL_tradePartner_8 : decode cL_tradePartner 8 = .ok (.lastore, 1) := by decide +kernel
theorem dL_tradePartner_9 : decode cL_tradePartner 9 = .ok (.goto 6, 3) := by decide +kernel
theorem dL_tradePartner_12 : decode cL_tradePartner 12 = .ok (.astore_n 3, 1) := by decide +kernel
theorem dL_tradePartner_13 : decode cL_tradePartner 13 = .ok (.iconst 1, 1) := by decide +kernel
theorem dL_tradePartner_14 : decode cL_tradePartner 14 = .ok (.ireturn, 1) := by decide +kernel
theorem dL_tradePartner_15 : decode cL_tradePartner 15 = .ok (.iconst 0, 1) := by decide +kernel
theorem dL_tradePartner_16 : decode cL_tradePartner 16 = .ok (.ireturn, 1) := by decide +kernel
theorem dL_holdersOfClass_0 : decode cL_holdersOfClass 0 = .ok (.aload_n 3, 1) := by decide +kernel
theorem dL_holdersOfClass_1 : decode cL_holdersOfClass 1 = .ok (.iconst 0, 1) := by decide +kernel
theorem dL_holdersOfClass_2 : decode cL_holdersOfClass 2 = .ok (.aload_n 0, 1) := by decide +kernel
theorem dL_holdersOfClass_3 : decode cL_holdersOfClass 3 = .ok (.iload_n 1, 1) := by decide +kernel
theorem dL_holdersOfClass_4 : decode cL_holdersOfClass 4 = .ok (.iload_n 2, 1) := by decide +kernel
theorem dL_holdersOfClass_5 : decode cL_holdersOfClass 5 = .ok (.invokevirtual 114, 3) := by decide +kernel
theorem dL_holdersOfClass_8 : decode cL_holdersOfClass 8 = .ok (.i2l, 1) := by decide +kernel
theorem dL_holdersOfClass_9 : decode cL_holdersOfClass 9 = .ok (.lastore, 1) := by decide +kernel
theorem dL_holdersOfClass_10 : decode cL_holdersOfClass 10 = .ok (.goto 7, 3) := by decide +kernel
theorem dL_holdersOfClass_13 : decode cL_holdersOfClass 13 = .ok (.astore 4, 2) := by decide +kernel
theorem dL_holdersOfClass_15 : decode cL_holdersOfClass 15 = .ok (.iconst 1, 1) := by decide +kernel
theorem dL_holdersOfClass_16 : decode cL_holdersOfClass 16 = .ok (.ireturn, 1) := by decide +kernel
theorem dL_holdersOfClass_17 : decode cL_holdersOfClass 17 = .ok (.iconst 0, 1) := by decide +kernel
theorem dL_holdersOfClass_18 : decode cL_holdersOfClass 18 = .ok (.ireturn, 1) := by decide +kernel
theorem dL_triesOf_0 : decode cL_triesOf 0 = .ok (.aload_n 2, 1) := by decide +kernel
theorem dL_triesOf_1 : decode cL_triesOf 1 = .ok (.iconst 0, 1) := by decide +kernel
theorem dL_triesOf_2 : decode cL_triesOf 2 = .ok (.aload_n 0, 1) := by decide +kernel
theorem dL_triesOf_3 : decode cL_triesOf 3 = .ok (.iload_n 1, 1) := by decide +kernel
theorem dL_triesOf_4 : decode cL_triesOf 4 = .ok (.invokevirtual 117, 3) := by decide +kernel
theorem dL_triesOf_7 : decode cL_triesOf 7 = .ok (.i2l, 1) := by decide +kernel
theorem dL_triesOf_8 : decode cL_triesOf 8 = .ok (.lastore, 1) := by decide +kernel
theorem dL_triesOf_9 : decode cL_triesOf 9 = .ok (.goto 6, 3) := by decide +kernel
theorem dL_triesOf_12 : decode cL_triesOf 12 = .ok (.astore_n 3, 1) := by decide +kernel
theorem dL_triesOf_13 : decode cL_triesOf 13 = .ok (.iconst 1, 1) := by decide +kernel
theorem dL_triesOf_14 : decode cL_triesOf 14 = .ok (.ireturn, 1) := by decide +kernel
theorem dL_triesOf_15 : decode cL_triesOf 15 = .ok (.iconst 0, 1) := by decide +kernel
theorem dL_triesOf_16 : decode cL_triesOf 16 = .ok (.ireturn, 1) := by decide +kernel
theorem dL_siblings_0 : decode cL_siblings 0 = .ok (.aload_n 2, 1) := by decide +kernel
theorem dL_siblings_1 : decode cL_siblings 1 = .ok (.iconst 0, 1) := by decide +kernel
theorem dL_siblings_2 : decode cL_siblings 2 = .ok (.aload_n 0, 1) := by decide +kernel
theorem dL_siblings_3 : decode cL_siblings 3 = .ok (.iload_n 1, 1) := by decide +kernel
theorem dL_siblings_4 : decode cL_siblings 4 = .ok (.invokevirtual 120, 3) := by decide +kernel
theorem dL_siblings_7 : decode cL_siblings 7 = .ok (.lastore, 1) := by decide +kernel
theorem dL_siblings_8 : decode cL_siblings 8 = .ok (.goto 6, 3) := by decide +kernel
theorem dL_siblings_11 : decode cL_siblings 11 = .ok (.astore_n 3, 1) := by decide +kernel
theorem dL_siblings_12 : decode cL_siblings 12 = .ok (.iconst 1, 1) := by decide +kernel
theorem dL_siblings_13 : decode cL_siblings 13 = .ok (.ireturn, 1) := by decide +kernel
theorem dL_siblings_14 : decode cL_siblings 14 = .ok (.iconst 0, 1) := by decide +kernel
theorem dL_siblings_15 : decode cL_siblings 15 = .ok (.ireturn, 1) := by decide +kernel
theorem dL_placeWith_0 : decode cL_placeWith 0 = .ok (.aload 4, 2) := by decide +kernel
theorem dL_placeWith_2 : decode cL_placeWith 2 = .ok (.iconst 0, 1) := by decide +kernel
theorem dL_placeWith_3 : decode cL_placeWith 3 = .ok (.aload_n 0, 1) := by decide +kernel
theorem dL_placeWith_4 : decode cL_placeWith 4 = .ok (.iload_n 1, 1) := by decide +kernel
theorem dL_placeWith_5 : decode cL_placeWith 5 = .ok (.iload_n 2, 1) := by decide +kernel
theorem dL_placeWith_6 : decode cL_placeWith 6 = .ok (.iload_n 3, 1) := by decide +kernel
theorem dL_placeWith_7 : decode cL_placeWith 7 = .ok (.invokevirtual 124, 3) := by decide +kernel
theorem dL_placeWith_10 : decode cL_placeWith 10 = .ok (.i2l, 1) := by decide +kernel
theorem dL_placeWith_11 : decode cL_placeWith 11 = .ok (.lastore, 1) := by decide +kernel
theorem dL_placeWith_12 : decode cL_placeWith 12 = .ok (.goto 11, 3) := by decide +kernel
theorem dL_placeWith_15 : decode cL_placeWith 15 = .ok (.astore 5, 2) := by decide +kernel
theorem dL_placeWith_17 : decode cL_placeWith 17 = .ok (.iconst 1, 1) := by decide +kernel
theorem dL_placeWith_18 : decode cL_placeWith 18 = .ok (.ireturn, 1) := by decide +kernel
theorem dL_placeWith_19 : decode cL_placeWith 19 = .ok (.astore 5, 2) := by decide +kernel
theorem dL_placeWith_21 : decode cL_placeWith 21 = .ok (.iconst 2, 1) := by decide +kernel
theorem dL_placeWith_22 : decode cL_placeWith 22 = .ok (.ireturn, 1) := by decide +kernel
theorem dL_placeWith_23 : decode cL_placeWith 23 = .ok (.iconst 0, 1) := by decide +kernel
theorem dL_placeWith_24 : decode cL_placeWith 24 = .ok (.ireturn, 1) := by decide +kernel
theorem dL_neededCapacity_0 : decode cL_neededCapacity 0 = .ok (.aload_n 3, 1) := by decide +kernel
theorem dL_neededCapacity_1 : decode cL_neededCapacity 1 = .ok (.iconst 0, 1) := by decide +kernel
theorem dL_neededCapacity_2 : decode cL_neededCapacity 2 = .ok (.aload_n 0, 1) := by decide +kernel
theorem dL_neededCapacity_3 : decode cL_neededCapacity 3 = .ok (.iload_n 1, 1) := by decide +kernel
theorem dL_neededCapacity_4 : decode cL_neededCapacity 4 = .ok (.iload_n 2, 1) := by decide +kernel
theorem dL_neededCapacity_5 : decode cL_neededCapacity 5 = .ok (.invokevirtual 127, 3) := by decide +kernel
theorem dL_neededCapacity_8 : decode cL_neededCapacity 8 = .ok (.i2l, 1) := by decide +kernel
theorem dL_neededCapacity_9 : decode cL_neededCapacity 9 = .ok (.lastore, 1) := by decide +kernel
theorem dL_neededCapacity_10 : decode cL_neededCapacity 10 = .ok (.goto 7, 3) := by decide +kernel
theorem dL_neededCapacity_13 : decode cL_neededCapacity 13 = .ok (.astore 4, 2) := by decide +kernel
theorem dL_neededCapacity_15 : decode cL_neededCapacity 15 = .ok (.iconst 1, 1) := by decide +kernel
theorem dL_neededCapacity_16 : decode cL_neededCapacity 16 = .ok (.ireturn, 1) := by decide +kernel
theorem dL_neededCapacity_17 : decode cL_neededCapacity 17 = .ok (.iconst 0, 1) := by decide +kernel
theorem dL_neededCapacity_18 : decode cL_neededCapacity 18 = .ok (.ireturn, 1) := by decide +kernel
theorem dL_gainersWithout_0 : decode cL_gainersWithout 0 = .ok (.aload_n 2, 1) := by decide +kernel
theorem dL_gainersWithout_1 : decode cL_gainersWithout 1 = .ok (.iconst 0, 1) := by decide +kernel
theorem dL_gainersWithout_2 : decode cL_gainersWithout 2 = .ok (.aload_n 0, 1) := by decide +kernel
theorem dL_gainersWithout_3 : decode cL_gainersWithout 3 = .ok (.iload_n 1, 1) := by decide +kernel
theorem dL_gainersWithout_4 : decode cL_gainersWithout 4 = .ok (.invokevirtual 130, 3) := by decide +kernel
theorem dL_gainersWithout_7 : decode cL_gainersWithout 7 = .ok (.lastore, 1) := by decide +kernel
theorem dL_gainersWithout_8 : decode cL_gainersWithout 8 = .ok (.goto 6, 3) := by decide +kernel
theorem dL_gainersWithout_11 : decode cL_gainersWithout 11 = .ok (.astore_n 3, 1) := by decide +kernel
theorem dL_gainersWithout_12 : decode cL_gainersWithout 12 = .ok (.iconst 1, 1) := by decide +kernel
theorem dL_gainersWithout_13 : decode cL_gainersWithout 13 = .ok (.ireturn, 1) := by decide +kernel
theorem dL_gainersWithout_14 : decode cL_gainersWithout 14 = .ok (.iconst 0, 1) := by decide +kernel
theorem dL_gainersWithout_15 : decode cL_gainersWithout 15 = .ok (.ireturn, 1) := by decide +kernel
theorem dL_bestByOrder_0 : decode cL_bestByOrder 0 = .ok (.aload_n 2, 1) := by decide +kernel
theorem dL_bestByOrder_1 : decode cL_bestByOrder 1 = .ok (.iconst 0, 1) := by decide +kernel
theorem dL_bestByOrder_2 : decode cL_bestByOrder 2 = .ok (.aload_n 0, 1) := by decide +kernel
theorem dL_bestByOrder_3 : decode cL_bestByOrder 3 = .ok (.iload_n 1, 1) := by decide +kernel
theorem dL_bestByOrder_4 : decode cL_bestByOrder 4 = .ok (.invokevirtual 133, 3) := by decide +kernel
theorem dL_bestByOrder_7 : decode cL_bestByOrder 7 = .ok (.i2l, 1) := by decide +kernel
theorem dL_bestByOrder_8 : decode cL_bestByOrder 8 = .ok (.lastore, 1) := by decide +kernel
theorem dL_bestByOrder_9 : decode cL_bestByOrder 9 = .ok (.goto 6, 3) := by decide +kernel
theorem dL_bestByOrder_12 : decode cL_bestByOrder 12 = .ok (.astore_n 3, 1) := by decide +kernel
theorem dL_bestByOrder_13 : decode cL_bestByOrder 13 = .ok (.iconst 1, 1) := by decide +kernel
theorem dL_bestByOrder_14 : decode cL_bestByOrder 14 = .ok (.ireturn, 1) := by decide +kernel
theorem dL_bestByOrder_15 : decode cL_bestByOrder 15 = .ok (.iconst 0, 1) := by decide +kernel
theorem dL_bestByOrder_16 : decode cL_bestByOrder 16 = .ok (.ireturn, 1) := by decide +kernel
theorem dL_printSchool_0 : decode cL_printSchool 0 = .ok (.aload_n 2, 1) := by decide +kernel
theorem dL_printSchool_1 : decode cL_printSchool 1 = .ok (.iconst 0, 1) := by decide +kernel
theorem dL_printSchool_2 : decode cL_printSchool 2 = .ok (.aload_n 0, 1) := by decide +kernel
theorem dL_printSchool_3 : decode cL_printSchool 3 = .ok (.iload_n 1, 1) := by decide +kernel
theorem dL_printSchool_4 : decode cL_printSchool 4 = .ok (.invokevirtual 136, 3) := by decide +kernel
theorem dL_printSchool_7 : decode cL_printSchool 7 = .ok (.i2l, 1) := by decide +kernel
theorem dL_printSchool_8 : decode cL_printSchool 8 = .ok (.lastore, 1) := by decide +kernel
theorem dL_printSchool_9 : decode cL_printSchool 9 = .ok (.goto 6, 3) := by decide +kernel
theorem dL_printSchool_12 : decode cL_printSchool 12 = .ok (.astore_n 3, 1) := by decide +kernel
theorem dL_printSchool_13 : decode cL_printSchool 13 = .ok (.iconst 1, 1) := by decide +kernel
theorem dL_printSchool_14 : decode cL_printSchool 14 = .ok (.ireturn, 1) := by decide +kernel
theorem dL_printSchool_15 : decode cL_printSchool 15 = .ok (.iconst 0, 1) := by decide +kernel
theorem dL_printSchool_16 : decode cL_printSchool 16 = .ok (.ireturn, 1) := by decide +kernel
theorem dL_restoreState_0 : decode cL_restoreState 0 = .ok (.aload_n 1, 1) := by decide +kernel
theorem dL_restoreState_1 : decode cL_restoreState 1 = .ok (.iconst 0, 1) := by decide +kernel
theorem dL_restoreState_2 : decode cL_restoreState 2 = .ok (.aload_n 0, 1) := by decide +kernel
theorem dL_restoreState_3 : decode cL_restoreState 3 = .ok (.invokevirtual 139, 3) := by decide +kernel
theorem dL_restoreState_6 : decode cL_restoreState 6 = .ok (.i2l, 1) := by decide +kernel
theorem dL_restoreState_7 : decode cL_restoreState 7 = .ok (.lastore, 1) := by decide +kernel
theorem dL_restoreState_8 : decode cL_restoreState 8 = .ok (.goto 6, 3) := by decide +kernel
theorem dL_restoreState_11 : decode cL_restoreState 11 = .ok (.astore_n 2, 1) := by decide +kernel
theorem dL_restoreState_12 : decode cL_restoreState 12 = .ok (.iconst 1, 1) := by decide +kernel
theorem dL_restoreState_13 : decode cL_restoreState 13 = .ok (.ireturn, 1) := by decide +kernel
theorem dL_restoreState_14 : decode cL_restoreState 14 = .ok (.iconst 0, 1) := by decide +kernel
theorem dL_restoreState_15 : decode cL_restoreState 15 = .ok (.ireturn, 1) := by decide +kernel
