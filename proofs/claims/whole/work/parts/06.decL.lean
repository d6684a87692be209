theorem dL_addCourse_0 : decode cL_addCourse 0 = .ok (.aload 4, 2) := by decide +kernel
theorem dL_addCourse_2 : decode cL_addCourse 2 = .ok (.iconst 0, 1) := by decide +kernel
theorem dL_addCourse_3 : decode cL_addCourse 3 = .ok (.aload_n 0, 1) := by decide +kernel
theorem dL_addCourse_4 : decode cL_addCourse 4 = .ok (.iload_n 1, 1) := by decide +kernel
theorem dL_addCourse_5 : decode cL_addCourse 5 = .ok (.iload_n 2, 1) := by decide +kernel
theorem dL_addCourse_6 : decode cL_addCourse 6 = .ok (.iload_n 3, 1) := by decide +kernel
theorem dL_addCourse_7 : decode cL_addCourse 7 = .ok (.invokevirtual 7, 3) := by decide +kernel
theorem dL_addCourse_10 : decode cL_addCourse 10 = .ok (.i2l, 1) := by decide +kernel
theorem dL_addCourse_11 : decode cL_addCourse 11 = .ok (.lastore, 1) := by decide +kernel
theorem dL_addCourse_12 : decode cL_addCourse 12 = .ok (.goto 11, 3) := by decide +kernel
theorem dL_addCourse_15 : decode cL_addCourse 15 = .ok (.astore 5, 2) := by decide +kernel
theorem dL_addCourse_17 : decode cL_addCourse 17 = .ok (.iconst 1, 1) := by decide +kernel
theorem dL_addCourse_18 : decode cL_addCourse 18 = .ok (.ireturn, 1) := by decide +kernel
theorem dL_addCourse_19 : decode cL_addCourse 19 = .ok (.astore 5, 2) := by decide +kernel
theorem dL_addCourse_21 : decode cL_addCourse 21 = .ok (.iconst 2, 1) := by decide +kernel
theorem dL_addCourse_22 : decode cL_addCourse 22 = .ok (.ireturn, 1) := by decide +kernel
theorem dL_addCourse_23 : decode cL_addCourse 23 = .ok (.iconst 0, 1) := by decide +kernel
theorem dL_addCourse_24 : decode cL_addCourse 24 = .ok (.ireturn, 1) := by decide +kernel
theorem dL_setSeats_0 : decode cL_setSeats 0 = .ok (.aload_n 3, 1) := by decide +kernel
theorem dL_setSeats_1 : decode cL_setSeats 1 = .ok (.iconst 0, 1) := by decide +kernel
theorem dL_setSeats_2 : decode cL_setSeats 2 = .ok (.aload_n 0, 1) := by decide +kernel
theorem dL_setSeats_3 : decode cL_setSeats 3 = .ok (.iload_n 1, 1) := by decide +kernel
theorem dL_setSeats_4 : decode cL_setSeats 4 = .ok (.iload_n 2, 1) := by decide +kernel
theorem dL_setSeats_5 : decode cL_setSeats 5 = .ok (.invokevirtual 17, 3) := by decide +kernel
theorem dL_setSeats_8 : decode cL_setSeats 8 = .ok (.i2l, 1) := by decide +kernel
theorem dL_setSeats_9 : decode cL_setSeats 9 = .ok (.lastore, 1) := by decide +kernel
theorem dL_setSeats_10 : decode cL_setSeats 10 = .ok (.goto 15, 3) := by decide +kernel
theorem dL_setSeats_13 : decode cL_setSeats 13 = .ok (.astore 4, 2) := by decide +kernel
theorem dL_setSeats_15 : decode cL_setSeats 15 = .ok (.iconst 1, 1) := by decide +kernel
theorem dL_setSeats_16 : decode cL_setSeats 16 = .ok (.ireturn, 1) := by decide +kernel
theorem dL_setSeats_17 : decode cL_setSeats 17 = .ok (.astore 4, 2) := by decide +kernel
theorem dL_setSeats_19 : decode cL_setSeats 19 = .ok (.iconst 2, 1) := by decide +kernel
theorem dL_setSeats_20 : decode cL_setSeats 20 = .ok (.ireturn, 1) := by decide +kernel
theorem dL_setSeats_21 : decode cL_setSeats 21 = .ok (.astore 4, 2) := by decide +kernel
theorem dL_setSeats_23 : decode cL_setSeats 23 = .ok (.iconst 3, 1) := by decide +kernel
theorem dL_setSeats_24 : decode cL_setSeats 24 = .ok (.ireturn, 1) := by decide +kernel
theorem dL_setSeats_25 : decode cL_setSeats 25 = .ok (.iconst 0, 1) := by decide +kernel
theorem dL_setSeats_26 : decode cL_setSeats 26 = .ok (.ireturn, 1) := by decide +kernel
theorem dL_addPrerequisite_0 : decode cL_addPrerequisite 0 = .ok (.aload_n 3, 1) := by decide +kernel
theorem dL_addPrerequisite_1 : decode cL_addPrerequisite 1 = .ok (.iconst 0, 1) := by decide +kernel
theorem dL_addPrerequisite_2 : decode cL_addPrerequisite 2 = .ok (.aload_n 0, 1) := by decide +kernel
theorem dL_addPrerequisite_3 : decode cL_addPrerequisite 3 = .ok (.iload_n 1, 1) := by decide +kernel
theorem dL_addPrerequisite_4 : decode cL_addPrerequisite 4 = .ok (.iload_n 2, 1) := by decide +kernel
theorem dL_addPrerequisite_5 : decode cL_addPrerequisite 5 = .ok (.invokevirtual 23, 3) := by decide +kernel
theorem dL_addPrerequisite_8 : decode cL_addPrerequisite 8 = .ok (.i2l, 1) := by decide +kernel
theorem dL_addPrerequisite_9 : decode cL_addPrerequisite 9 = .ok (.lastore, 1) := by decide +kernel
theorem dL_addPrerequisite_10 : decode cL_addPrerequisite 10 = .ok (.goto 11, 3) := by decide +kernel
theorem dL_addPrerequisite_13 : decode cL_addPrerequisite 13 = .ok (.astore 4, 2) := by decide +kernel
theorem dL_addPrerequisite_15 : decode cL_addPrerequisite 15 = .ok (.iconst 1, 1) := by decide +kernel
theorem dL_addPrerequisite_16 : decode cL_addPrerequisite 16 = .ok (.ireturn, 1) := by decide +kernel
theorem dL_addPrerequisite_17 : decode cL_addPrerequisite 17 = .ok (.astore 4, 2) := by decide +kernel
theorem dL_addPrerequisite_19 : decode cL_addPrerequisite 19 = .ok (.iconst 2, 1) := by decide +kernel
theorem dL_addPrerequisite_20 : decode cL_addPrerequisite 20 = .ok (.ireturn, 1) := by decide +kernel
theorem dL_addPrerequisite_21 : decode cL_addPrerequisite 21 = .ok (.iconst 0, 1) := by decide +kernel
theorem dL_addPrerequisite_22 : decode cL_addPrerequisite 22 = .ok (.ireturn, 1) := by decide +kernel
theorem dL_requires_0 : decode cL_requires 0 = .ok (.aload_n 3, 1) := by decide +kernel
theorem dL_requires_1 : decode cL_requires 1 = .ok (.iconst 0, 1) := by decide +kernel
theorem dL_requires_2 : decode cL_requires 2 = .ok (.aload_n 0, 1) := by decide +kernel
theorem dL_requires_3 : decode cL_requires 3 = .ok (.iload_n 1, 1) := by decide +kernel
theorem dL_requires_4 : decode cL_requires 4 = .ok (.iload_n 2, 1) := by decide +kernel
theorem dL_requires_5 : decode cL_requires 5 = .ok (.invokevirtual 26, 3) := by decide +kernel
theorem dL_requires_8 : decode cL_requires 8 = .ok (.ifCond .eq 7, 3) := by decide +kernel
theorem dL_requires_11 : decode cL_requires 11 = .ok (.lconst 1, 1) := by decide +kernel
theorem dL_requires_12 : decode cL_requires 12 = .ok (.goto 4, 3) := by decide +kernel
theorem dL_requires_15 : decode cL_requires 15 = .ok (.lconst 0, 1) := by decide +kernel
theorem dL_requires_16 : decode cL_requires 16 = .ok (.lastore, 1) := by decide +kernel
theorem dL_requires_17 : decode cL_requires 17 = .ok (.goto 7, 3) := by decide +kernel
theorem dL_requires_20 : decode cL_requires 20 = .ok (.astore 4, 2) := by decide +kernel
theorem dL_requires_22 : decode cL_requires 22 = .ok (.iconst 1, 1) := by decide +kernel
theorem dL_requires_23 : decode cL_requires 23 = .ok (.ireturn, 1) := by decide +kernel
theorem dL_requires_24 : decode cL_requires 24 = .ok (.iconst 0, 1) := by decide +kernel
theorem dL_requires_25 : decode cL_requires 25 = .ok (.ireturn, 1) := by decide +kernel
theorem dL_level_0 : decode cL_level 0 = .ok (.aload_n 2, 1) := by decide +kernel
theorem dL_level_1 : decode cL_level 1 = .ok (.iconst 0, 1) := by decide +kernel
theorem dL_level_2 : decode cL_level 2 = .ok (.aload_n 0, 1) := by decide +kernel
theorem dL_level_3 : decode cL_level 3 = .ok (.iload_n 1, 1) := by decide +kernel
theorem dL_level_4 : decode cL_level 4 = .ok (.invokevirtual 30, 3) := by decide +kernel
theorem dL_level_7 : decode cL_level 7 = .ok (.i2l, 1) := by decide +kernel
theorem dL_level_8 : decode cL_level 8 = .ok (.lastore, 1) := by decide +kernel
theorem dL_level_9 : decode cL_level 9 = .ok (.goto 6, 3) := by decide +kernel
theorem dL_level_12 : decode cL_level 12 = .ok (.astore_n 3, 1) := by decide +kernel
theorem dL_level_13 : decode cL_level 13 = .ok (.iconst 1, 1) := by decide +kernel
theorem dL_level_14 : decode cL_level 14 = .ok (.ireturn, 1) := by decide +kernel
theorem dL_level_15 : decode cL_level 15 = .ok (.iconst 0, 1) := by decide +kernel
theorem dL_level_16 : decode cL_level 16 = .ok (.ireturn, 1) := by decide +kernel
theorem dL_enrolled_0 : decode cL_enrolled 0 = .ok (.aload_n 2, 1) := by decide +kernel
theorem dL_enrolled_1 : decode cL_enrolled 1 = .ok (.iconst 0, 1) := by decide +kernel
theorem dL_enrolled_2 : decode cL_enrolled 2 = .ok (.aload_n 0, 1) := by decide +kernel
theorem dL_enrolled_3 : decode cL_enrolled 3 = .ok (.iload_n 1, 1) := by decide +kernel
theorem dL_enrolled_4 : decode cL_enrolled 4 = .ok (.invokevirtual 34, 3) := by decide +kernel
theorem dL_enrolled_7 : decode cL_enrolled 7 = .ok (.i2l, 1) := by decide +kernel
theorem dL_enrolled_8 : decode cL_enrolled 8 = .ok (.lastore, 1) := by decide +kernel
theorem dL_enrolled_9 : decode cL_enrolled 9 = .ok (.goto 6, 3) := by decide +kernel
theorem dL_enrolled_12 : decode cL_enrolled 12 = .ok (.astore_n 3, 1) := by decide +kernel
theorem dL_enrolled_13 : decode cL_enrolled 13 = .ok (.iconst 1, 1) := by decide +kernel
theorem dL_enrolled_14 : decode cL_enrolled 14 = .ok (.ireturn, 1) := by decide +kernel
theorem dL_enrolled_15 : decode cL_enrolled 15 = .ok (.iconst 0, 1) := by decide +kernel
theorem dL_enrolled_16 : decode cL_enrolled 16 = .ok (.ireturn, 1) := by decide +kernel
theorem dL_freeSeats_0 : decode cL_freeSeats 0 = .ok (.aload_n 2, 1) := by decide +kernel
theorem dL_freeSeats_1 : decode cL_freeSeats 1 = .ok (.iconst 0, 1) := by decide +kernel
theorem dL_freeSeats_2 : decode cL_freeSeats 2 = .ok (.aload_n 0, 1) := by decide +kernel
theorem dL_freeSeats_3 : decode cL_freeSeats 3 = .ok (.iload_n 1, 1) := by decide +kernel
theorem dL_freeSeats_4 : decode cL_freeSeats 4 = .ok (.invokevirtual 37, 3) := by decide +kernel
theorem dL_freeSeats_7 : decode cL_freeSeats 7 = .ok (.i2l, 1) := by decide +kernel
theorem dL_freeSeats_8 : decode cL_freeSeats 8 = .ok (.lastore, 1) := by decide +kernel
theorem dL_freeSeats_9 : decode cL_freeSeats 9 = .ok (.goto 6, 3) := by decide +kernel
theorem dL_freeSeats_12 : decode cL_freeSeats 12 = .ok (.astore_n 3, 1) := by decide +kernel
theorem dL_freeSeats_13 : decode cL_freeSeats 13 = .ok (.iconst 1, 1) := by decide +kernel
theorem dL_freeSeats_14 : decode cL_freeSeats 14 = .ok (.ireturn, 1) := by decide +kernel
theorem dL_freeSeats_15 : decode cL_freeSeats 15 = .ok (.iconst 0, 1) := by decide +kernel
theorem dL_freeSeats_16 : decode cL_freeSeats 16 = .ok (.ireturn, 1) := by decide +kernel
theorem dL_addStudent_0 : decode cL_addStudent 0 = .ok (.aload_n 3, 1) := by decide +kernel
theorem dL_addStudent_1 : decode cL_addStudent 1 = .ok (.iconst 0, 1) := by decide +kernel
theorem dL_addStudent_2 : decode cL_addStudent 2 = .ok (.aload_n 0, 1) := by decide +kernel
theorem dL_addStudent_3 : decode cL_addStudent 3 = .ok (.iload_n 1, 1) := by decide +kernel
theorem dL_addStudent_4 : decode cL_addStudent 4 = .ok (.iload_n 2, 1) := by decide +kernel
theorem dL_addStudent_5 : decode cL_addStudent 5 = .ok (.invokevirtual 40, 3) := by decide +kernel
theorem dL_addStudent_8 : decode cL_addStudent 8 = .ok (.i2l, 1) := by decide +kernel
theorem dL_addStudent_9 : decode cL_addStudent 9 = .ok (.lastore, 1) := by decide +kernel
theorem dL_addStudent_10 : decode cL_addStudent 10 = .ok (.goto 11, 3) := by decide +kernel
theorem dL_addStudent_13 : decode cL_addStudent 13 = .ok (.astore 4, 2) := by decide +kernel
theorem dL_addStudent_15 : decode cL_addStudent 15 = .ok (.iconst 1, 1) := by decide +kernel
theorem dL_addStudent_16 : decode cL_addStudent 16 = .ok (.ireturn, 1) := by decide +kernel
theorem dL_addStudent_17 : decode cL_addStudent 17 = .ok (.astore 4, 2) := by decide +kernel
theorem dL_addStudent_19 : decode cL_addStudent 19 = .ok (.iconst 2, 1) := by decide +kernel
theorem dL_addStudent_20 : decode cL_addStudent 20 = .ok (.ireturn, 1) := by decide +kernel
theorem dL_addStudent_21 : decode cL_addStudent 21 = .ok (.iconst 0, 1) := by decide +kernel
theorem dL_addStudent_22 : decode cL_addStudent 22 = .ok (.ireturn, 1) := by decide +kernel
theorem dL_pass_0 : decode cL_pass 0 = .ok (.aload_n 3, 1) := by decide +kernel
theorem dL_pass_1 : decode cL_pass 1 = .ok (.iconst 0, 1) := by decide +kernel
theorem dL_pass_2 : decode cL_pass 2 = .ok (.aload_n 0, 1) := by decide +kernel
theorem dL_pass_3 : decode cL_pass 3 = .ok (.iload_n 1, 1) := by decide +kernel
theorem dL_pass_4 : decode cL_pass 4 = .ok (.iload_n 2, 1) := by decide +kernel
theorem dL_pass_5 : decode cL_pass 5 = .ok (.invokevirtual 43, 3) := by decide +kernel
theorem dL_pass_8 : decode cL_pass 8 = .ok (.i2l, 1) := by decide +kernel
theorem dL_pass_9 : decode cL_pass 9 = .ok (.lastore, 1) := by decide +kernel
theorem dL_pass_10 : decode cL_pass 10 = .ok (.goto 11, 3) := by decide +kernel
theorem dL_pass_13 : decode cL_pass 13 = .ok (.astore 4, 2) := by decide +kernel
theorem dL_pass_15 : decode cL_pass 15 = .ok (.iconst 1, 1) := by decide +kernel
theorem dL_pass_16 : decode cL_pass 16 = .ok (.ireturn, 1) := by decide +kernel
theorem dL_pass_17 : decode cL_pass 17 = .ok (.astore 4, 2) := by decide +kernel
theorem dL_pass_19 : decode cL_pass 19 = .ok (.iconst 2, 1) := by decide +kernel
theorem dL_pass_20 : decode cL_pass 20 = .ok (.ireturn, 1) := by decide +kernel
theorem dL_pass_21 : decode cL_pass 21 = .ok (.iconst 0, 1) := by decide +kernel
theorem dL_pass_22 : decode cL_pass 22 = .ok (.ireturn, 1) := by decide +kernel
theorem dL_hasPassed_0 : decode cL_hasPassed 0 = .ok (.aload_n 3, 1) := by decide +kernel
theorem dL_hasPassed_1 : decode cL_hasPassed 1 = .ok (.iconst 0, 1) := by decide +kernel
theorem dL_hasPassed_2 : decode cL_hasPassed 2 = .ok (.aload_n 0, 1) := by decide +kernel
theorem dL_hasPassed_3 : decode cL_hasPassed 3 = .ok (.iload_n 1, 1) := by decide +kernel
theorem dL_hasPassed_4 : decode cL_hasPassed 4 = .ok (.iload_n 2, 1) := by decide +kernel
theorem dL_hasPassed_5 : decode cL_hasPassed 5 = .ok (.invokevirtual 46, 3) := by decide +kernel
theorem dL_hasPassed_8 : decode cL_hasPassed 8 = .ok (.ifCond .eq 7, 3) := by decide +kernel
theorem dL_hasPassed_11 : decode cL_hasPassed 11 = .ok (.lconst 1, 1) := by decide +kernel
theorem dL_hasPassed_12 : decode cL_hasPassed 12 = .ok (.goto 4, 3) := by decide +kernel
theorem dL_hasPassed_15 : decode cL_hasPassed 15 = .ok (.lconst 0, 1) := by decide +kernel
theorem dL_hasPassed_16 : decode cL_hasPassed 16 = .ok (.lastore, 1) := by decide +kernel
theorem dL_hasPassed_17 : decode cL_hasPassed 17 = .ok (.goto 7, 3) := by decide +kernel
theorem dL_hasPassed_20 : decode cL_hasPassed 20 = .ok (.astore 4, 2) := by decide +kernel
theorem dL_hasPassed_22 : decode cL_hasPassed 22 = .ok (.iconst 1, 1) := by decide +kernel
theorem dL_hasPassed_23 : decode cL_hasPassed 23 = .ok (.ireturn, 1) := by decide +kernel
theorem dL_hasPassed_24 : decode cL_hasPassed 24 = .ok (.iconst 0, 1) := by decide +kernel
theorem dL_hasPassed_25 : decode cL_hasPassed 25 = .ok (.ireturn, 1) := by decide +kernel
theorem dL_isEnrolled_0 : decode cL_isEnrolled 0 = .ok (.aload_n 3, 1) := by decide +kernel
theorem dL_isEnrolled_1 : decode cL_isEnrolled 1 = .ok (.iconst 0, 1) := by decide +kernel
theorem dL_isEnrolled_2 : decode cL_isEnrolled 2 = .ok (.aload_n 0, 1) := by decide +kernel
theorem dL_isEnrolled_3 : decode cL_isEnrolled 3 = .ok (.iload_n 1, 1) := by decide +kernel
theorem dL_isEnrolled_4 : decode cL_isEnrolled 4 = .ok (.iload_n 2, 1) := by decide +kernel
theorem dL_isEnrolled_5 : decode cL_isEnrolled 5 = .ok (.invokevirtual 49, 3) := by decide +kernel
theorem dL_isEnrolled_8 : decode cL_isEnrolled 8 = .ok (.ifCond .eq 7, 3) := by decide +kernel
theorem dL_isEnrolled_11 : decode cL_isEnrolled 11 = .ok (.lconst 1, 1) := by decide +kernel
theorem dL_isEnrolled_12 : decode cL_isEnrolled 12 = .ok (.goto 4, 3) := by decide +kernel
theorem dL_isEnrolled_15 : decode cL_isEnrolled 15 = .ok (.lconst 0, 1) := by decide +kernel
theorem dL_isEnrolled_16 : decode cL_isEnrolled 16 = .ok (.lastore, 1) := by decide +kernel
theorem dL_isEnrolled_17 : decode cL_isEnrolled 17 = .ok (.goto 7, 3) := by decide +kernel
theorem dL_isEnrolled_20 : decode cL_isEnrolled 20 = .ok (.astore 4, 2) := by decide +kernel
theorem dL_isEnrolled_22 : decode cL_isEnrolled 22 = .ok (.iconst 1, 1) := by decide +kernel
theorem dL_isEnrolled_23 : decode cL_isEnrolled 23 = .ok (.ireturn, 1) := by decide +kernel
theorem dL_isEnrolled_24 : decode cL_isEnrolled 24 = .ok (.iconst 0, 1) := by decide +kernel
theorem dL_isEnrolled_25 : decode cL_isEnrolled 25 = .ok (.ireturn, 1) := by decide +kernel
theorem dL_credits_0 : decode cL_credits 0 = .ok (.aload_n 2, 1) := by decide +kernel
theorem dL_credits_1 : decode cL_credits 1 = .ok (.iconst 0, 1) := by decide +kernel
theorem dL_credits_2 : decode cL_credits 2 = .ok (.aload_n 0, 1) := by decide +kernel
theorem dL_credits_3 : decode cL_credits 3 = .ok (.iload_n 1, 1) := by decide +kernel
theorem dL_credits_4 : decode cL_credits 4 = .ok (.invokevirtual 52, 3) := by decide +kernel
theorem dL_credits_7 : decode cL_credits 7 = .ok (.i2l, 1) := by decide +kernel
theorem dL_credits_8 : decode cL_credits 8 = .ok (.lastore, 1) := by decide +kernel
theorem dL_credits_9 : decode cL_credits 9 = .ok (.goto 6, 3) := by decide +kernel
theorem dL_credits_12 : decode cL_credits 12 = .ok (.astore_n 3, 1) := by decide +kernel
theorem dL_credits_13 : decode cL_credits 13 = .ok (.iconst 1, 1) := by decide +kernel
theorem dL_credits_14 : decode cL_credits 14 = .ok (.ireturn, 1) := by decide +kernel
theorem dL_credits_15 : decode cL_credits 15 = .ok (.iconst 0, 1) := by decide +kernel
theorem dL_credits_16 : decode cL_credits 16 = .ok (.ireturn, 1) := by decide +kernel
theorem dL_missing_0 : decode cL_missing 0 = .ok (.aload_n 3, 1) := by decide +kernel
theorem dL_missing_1 : decode cL_missing 1 = .ok (.iconst 0, 1) := by decide +kernel
theorem dL_missing_2 : decode cL_missing 2 = .ok (.aload_n 0, 1) := by decide +kernel
theorem dL_missing_3 : decode cL_missing 3 = .ok (.iload_n 1, 1) := by decide +kernel
theorem dL_missing_4 : decode cL_missing 4 = .ok (.iload_n 2, 1) := by decide +kernel
theorem dL_missing_5 : decode cL_missing 5 = .ok (.invokevirtual 55, 3) := by decide +kernel
theorem dL_missing_8 : decode cL_missing 8 = .ok (.i2l, 1) := by decide +kernel
theorem dL_missing_9 : decode cL_missing 9 = .ok (.lastore, 1) := by decide +kernel
theorem dL_missing_10 : decode cL_missing 10 = .ok (.goto 7, 3) := by decide +kernel
theorem dL_missing_13 : decode cL_missing 13 = .ok (.astore 4, 2) := by decide +kernel
theorem dL_missing_15 : decode cL_missing 15 = .ok (.iconst 1, 1) := by decide +kernel
theorem dL_missing_16 : decode cL_missing 16 = .ok (.ireturn, 1) := by decide +kernel
theorem dL_missing_17 : decode cL_missing 17 = .ok (.iconst 0, 1) := by decide +kernel
theorem dL_missing_18 : decode cL_missing 18 = .ok (.ireturn, 1) := by decide +kernel
theorem dL_obstacle_0 : decode cL_obstacle 0 = .ok (.aload_n 3, 1) := by decide +kernel
theorem dL_obstacle_1 : decode cL_obstacle 1 = .ok (.iconst 0, 1) := by decide +kernel
theorem dL_obstacle_2 : decode cL_obstacle 2 = .ok (.aload_n 0, 1) := by decide +kernel
theorem dL_obstacle_3 : decode cL_obstacle 3 = .ok (.iload_n 1, 1) := by decide +kernel
theorem dL_obstacle_4 : decode cL_obstacle 4 = .ok (.iload_n 2, 1) := by decide +kernel
theorem dL_obstacle_5 : decode cL_obstacle 5 = .ok (.invokevirtual 58, 3) := by decide +kernel
theorem dL_obstacle_8 : decode cL_obstacle 8 = .ok (.i2l, 1) := by decide +kernel
theorem dL_obstacle_9 : decode cL_obstacle 9 = .ok (.lastore, 1) := by decide +kernel
theorem dL_obstacle_10 : decode cL_obstacle 10 = .ok (.goto 7, 3) := by decide +kernel
theorem dL_obstacle_13 : decode cL_obstacle 13 = .ok (.astore 4, 2) := by decide +kernel
theorem dL_obstacle_15 : decode cL_obstacle 15 = .ok (.iconst 1, 1) := by decide +kernel
theorem dL_obstacle_16 : decode cL_obstacle 16 = .ok (.ireturn, 1) := by decide +kernel
theorem dL_obstacle_17 : decode cL_obstacle 17 = .ok (.iconst 0, 1) := by decide +kernel
theorem dL_obstacle_18 : decode cL_obstacle 18 = .ok (.ireturn, 1) := by decide +kernel
theorem dL_wish_0 : decode cL_wish 0 = .ok (.aload_n 3, 1) := by decide +kernel
theorem dL_wish_1 : decode cL_wish 1 = .ok (.iconst 0, 1) := by decide +kernel
theorem dL_wish_2 : decode cL_wish 2 = .ok (.aload_n 0, 1) := by decide +kernel
theorem dL_wish_3 : decode cL_wish 3 = .ok (.iload_n 1, 1) := by decide +kernel
theorem dL_wish_4 : decode cL_wish 4 = .ok (.iload_n 2, 1) := by decide +kernel
theorem dL_wish_5 : decode cL_wish 5 = .ok (.invokevirtual 61, 3) := by decide +kernel
theorem dL_wish_8 : decode cL_wish 8 = .ok (.i2l, 1) := by decide +kernel
theorem dL_wish_9 : decode cL_wish 9 = .ok (.lastore, 1) := by decide +kernel
theorem dL_wish_10 : decode cL_wish 10 = .ok (.goto 11, 3) := by decide +kernel
theorem dL_wish_13 : decode cL_wish 13 = .ok (.astore 4, 2) := by decide +kernel
theorem dL_wish_15 : decode cL_wish 15 = .ok (.iconst 1, 1) := by decide +kernel
theorem dL_wish_16 : decode cL_wish 16 = .ok (.ireturn, 1) := by decide +kernel
theorem dL_wish_17 : decode cL_wish 17 = .ok (.astore 4, 2) := by decide +kernel
theorem dL_wish_19 : decode cL_wish 19 = .ok (.iconst 2, 1) := by decide +kernel
theorem dL_wish_20 : decode cL_wish 20 = .ok (.ireturn, 1) := by decide +kernel
theorem dL_wish_21 : decode cL_wish 21 = .ok (.iconst 0, 1) := by decide +kernel
theorem dL_wish_22 : decode cL_wish 22 = .ok (.ireturn, 1) := by decide +kernel
theorem dL_dropWish_0 : decode cL_dropWish 0 = .ok (.aload_n 3, 1) := by decide +kernel
theorem dL_dropWish_1 : decode cL_dropWish 1 = .ok (.iconst 0, 1) := by decide +kernel
theorem dL_dropWish_2 : decode cL_dropWish 2 = .ok (.aload_n 0, 1) := by decide +kernel
theorem dL_dropWish_3 : decode cL_dropWish 3 = .ok (.iload_n 1, 1) := by decide +kernel
theorem dL_dropWish_4 : decode cL_dropWish 4 = .ok (.iload_n 2, 1) := by decide +kernel
theorem dL_dropWish_5 : decode cL_dropWish 5 = .ok (.invokevirtual 64, 3) := by decide +kernel
theorem dL_dropWish_8 : decode cL_dropWish 8 = .ok (.i2l, 1) := by decide +kernel
theorem dL_dropWish_9 : decode cL_dropWish 9 = .ok (.lastore, 1) := by decide +kernel
theorem dL_dropWish_10 : decode cL_dropWish 10 = .ok (.goto 11, 3) := by decide +kernel
theorem dL_dropWish_13 : decode cL_dropWish 13 = .ok (.astore 4, 2) := by decide +kernel
theorem dL_dropWish_15 : decode cL_dropWish 15 = .ok (.iconst 1, 1) := by decide +kernel
theorem dL_dropWish_16 : decode cL_dropWish 16 = .ok (.ireturn, 1) := by decide +kernel
theorem dL_dropWish_17 : decode cL_dropWish 17 = .ok (.astore 4, 2) := by decide +kernel
theorem dL_dropWish_19 : decode cL_dropWish 19 = .ok (.iconst 2, 1) := by decide +kernel
theorem dL_dropWish_20 : decode cL_dropWish 20 = .ok (.ireturn, 1) := by decide +kernel
theorem dL_dropWish_21 : decode cL_dropWish 21 = .ok (.iconst 0, 1) := by decide +kernel
theorem dL_dropWish_22 : decode cL_dropWish 22 = .ok (.ireturn, 1) := by decide +kernel
theorem dL_wishes_0 : decode cL_wishes 0 = .ok (.aload_n 2, 1) := by decide +kernel
theorem dL_wishes_1 : decode cL_wishes 1 = .ok (.iconst 0, 1) := by decide +kernel
theorem dL_wishes_2 : decode cL_wishes 2 = .ok (.aload_n 0, 1) := by decide +kernel
theorem dL_wishes_3 : decode cL_wishes 3 = .ok (.iload_n 1, 1) := by decide +kernel
theorem dL_wishes_4 : decode cL_wishes 4 = .ok (.invokevirtual 67, 3) := by decide +kernel
theorem dL_wishes_7 : decode cL_wishes 7 = .ok (.i2l, 1) := by decide +kernel
theorem dL_wishes_8 : decode cL_wishes 8 = .ok (.lastore, 1) := by decide +kernel
theorem dL_wishes_9 : decode cL_wishes 9 = .ok (.goto 6, 3) := by decide +kernel
theorem dL_wishes_12 : decode cL_wishes 12 = .ok (.astore_n 3, 1) := by decide +kernel
theorem dL_wishes_13 : decode cL_wishes 13 = .ok (.iconst 1, 1) := by decide +kernel
theorem dL_wishes_14 : decode cL_wishes 14 = .ok (.ireturn, 1) := by decide +kernel
theorem dL_wishes_15 : decode cL_wishes 15 = .ok (.iconst 0, 1) := by decide +kernel
theorem dL_wishes_16 : decode cL_wishes 16 = .ok (.ireturn, 1) := by decide +kernel
theorem dL_wishAt_0 : decode cL_wishAt 0 = .ok (.aload_n 3, 1) := by decide +kernel
theorem dL_wishAt_1 : decode cL_wishAt 1 = .ok (.iconst 0, 1) := by decide +kernel
theorem dL_wishAt_2 : decode cL_wishAt 2 = .ok (.aload_n 0, 1) := by decide +kernel
theorem dL_wishAt_3 : decode cL_wishAt 3 = .ok (.iload_n 1, 1) := by decide +kernel
theorem dL_wishAt_4 : decode cL_wishAt 4 = .ok (.iload_n 2, 1) := by decide +kernel
theorem dL_wishAt_5 : decode cL_wishAt 5 = .ok (.invokevirtual 70, 3) := by decide +kernel
theorem dL_wishAt_8 : decode cL_wishAt 8 = .ok (.i2l, 1) := by decide +kernel
theorem dL_wishAt_9 : decode cL_wishAt 9 = .ok (.lastore, 1) := by decide +kernel
theorem dL_wishAt_10 : decode cL_wishAt 10 = .ok (.goto 7, 3) := by decide +kernel
theorem dL_wishAt_13 : decode cL_wishAt 13 = .ok (.astore 4, 2) := by decide +kernel
theorem dL_wishAt_15 : decode cL_wishAt 15 = .ok (.iconst 1, 1) := by decide +kernel
theorem dL_wishAt_16 : decode cL_wishAt 16 = .ok (.ireturn, 1) := by decide +kernel
theorem dL_wishAt_17 : decode cL_wishAt 17 = .ok (.iconst 0, 1) := by decide +kernel
theorem dL_wishAt_18 : decode cL_wishAt 18 = .ok (.ireturn, 1) := by decide +kernel
theorem dL_request_0 : decode cL_request 0 = .ok (.aload_n 3, 1) := by decide +kernel
theorem dL_request_1 : decode cL_request 1 = .ok (.iconst 0, 1) := by decide +kernel
theorem dL_request_2 : decode cL_request 2 = .ok (.aload_n 0, 1) := by decide +kernel
theorem dL_request_3 : decode cL_request 3 = .ok (.iload_n 1, 1) := by decide +kernel
theorem dL_request_4 : decode cL_request 4 = .ok (.iload_n 2, 1) := by decide +kernel
theorem dL_request_5 : decode cL_request 5 = .ok (.invokevirtual 73, 3) := by decide +kernel
theorem dL_request_8 : decode cL_request 8 = .ok (.i2l, 1) := by decide +kernel
theorem dL_request_9 : decode cL_request 9 = .ok (.lastore, 1) := by decide +kernel
theorem dL_request_10 : decode cL_request 10 = .ok (.goto 11, 3) := by decide +kernel
theorem dL_request_13 : decode cL_request 13 = .ok (.astore 4, 2) := by decide +kernel
theorem dL_request_15 : decode cL_request 15 = .ok (.iconst 1, 1) := by decide +kernel
theorem dL_request_16 : decode cL_request 16 = .ok (.ireturn, 1) := by decide +kernel
theorem dL_request_17 : decode cL_request 17 = .ok (.astore 4, 2) := by decide +kernel
theorem dL_request_19 : decode cL_request 19 = .ok (.iconst 2, 1) := by decide +kernel
theorem dL_request_20 : decode cL_request 20 = .ok (.ireturn, 1) := by decide +kernel
theorem dL_request_21 : decode cL_request 21 = .ok (.iconst 0, 1) := by decide +kernel
theorem dL_request_22 : decode cL_request 22 = .ok (.ireturn, 1) := by decide +kernel
theorem dL_drop_0 : decode cL_drop 0 = .ok (.aload_n 3, 1) := by decide +kernel
theorem dL_drop_1 : decode cL_drop 1 = .ok (.iconst 0, 1) := by decide +kernel
theorem dL_drop_2 : decode cL_drop 2 = .ok (.aload_n 0, 1) := by decide +kernel
theorem dL_drop_3 : decode cL_drop 3 = .ok (.iload_n 1, 1) := by decide +kernel
theorem dL_drop_4 : decode cL_drop 4 = .ok (.iload_n 2, 1) := by decide +kernel
theorem dL_drop_5 : decode cL_drop 5 = .ok (.invokevirtual 76, 3) := by decide +kernel
theorem dL_drop_8 : decode cL_drop 8 = .ok (.i2l, 1) := by decide +kernel
theorem dL_drop_9 : decode cL_drop 9 = .ok (.lastore, 1) := by decide +kernel
theorem dL_drop_10 : decode cL_drop 10 = .ok (.goto 11, 3) := by decide +kernel
theorem dL_drop_13 : decode cL_drop 13 = .ok (.astore 4, 2) := by decide +kernel
theorem dL_drop_15 : decode cL_drop 15 = .ok (.iconst 1, 1) := by decide +kernel
theorem dL_drop_16 : decode cL_drop 16 = .ok (.ireturn, 1) := by decide +kernel
theorem dL_drop_17 : decode cL_drop 17 = .ok (.astore 4, 2) := by decide +kernel
theorem dL_drop_19 : decode cL_drop 19 = .ok (.iconst 2, 1) := by decide +kernel
theorem dL_drop_20 : decode cL_drop 20 = .ok (.ireturn, 1) := by decide +kernel
theorem dL_drop_21 : decode cL_drop 21 = .ok (.iconst 0, 1) := by decide +kernel
theorem dL_drop_22 : decode cL_drop 22 = .ok (.ireturn, 1) := by decide +kernel
theorem dL_change_0 : decode cL_change 0 = .ok (.aload 4, 2) := by decide +kernel
theorem dL_change_2 : decode cL_change 2 = .ok (.iconst 0, 1) := by decide +kernel
theorem dL_change_3 : decode cL_change 3 = .ok (.aload_n 0, 1) := by decide +kernel
theorem dL_change_4 : decode cL_change 4 = .ok (.iload_n 1, 1) := by decide +kernel
theorem dL_change_5 : decode cL_change 5 = .ok (.iload_n 2, 1) := by decide +kernel
theorem dL_change_6 : decode cL_change 6 = .ok (.iload_n 3, 1) := by decide +kernel
theorem dL_change_7 : decode cL_change 7 = .ok (.invokevirtual 79, 3) := by decide +kernel
theorem dL_change_10 : decode cL_change 10 = .ok (.i2l, 1) := by decide +kernel
theorem dL_change_11 : decode cL_change 11 = .ok (.lastore, 1) := by decide +kernel
theorem dL_change_12 : decode cL_change 12 = .ok (.goto 11, 3) := by decide +kernel
theorem dL_change_15 : decode cL_change 15 = .ok (.astore 5, 2) := by decide +kernel
theorem dL_change_17 : decode cL_change 17 = .ok (.iconst 1, 1) := by decide +kernel
theorem dL_change_18 : decode cL_change 18 = .ok (.ireturn, 1) := by decide +kernel
theorem dL_change_19 : decode cL_change 19 = .ok (.astore 5, 2) := by decide +kernel
theorem dL_change_21 : decode cL_change 21 = .ok (.iconst 2, 1) := by decide +kernel
theorem dL_change_22 : decode cL_change 22 = .ok (.ireturn, 1) := by decide +kernel
theorem dL_change_23 : decode cL_change 23 = .ok (.iconst 0, 1) := by decide +kernel
theorem dL_change_24 : decode cL_change 24 = .ok (.ireturn, 1) := by decide +kernel
theorem dL_accept_0 : decode cL_accept 0 = .ok (.aload_n 3, 1) := by decide +kernel
theorem dL_accept_1 : decode cL_accept 1 = .ok (.iconst 0, 1) := by decide +kernel
theorem dL_accept_2 : decode cL_accept 2 = .ok (.aload_n 0, 1) := by decide +kernel
theorem dL_accept_3 : decode cL_accept 3 = .ok (.iload_n 1, 1) := by decide +kernel
theorem dL_accept_4 : decode cL_accept 4 = .ok (.iload_n 2, 1) := by decide +kernel
theorem dL_accept_5 : decode cL_accept 5 = .ok (.invokevirtual 82, 3) := by decide +kernel
theorem dL_accept_8 : decode cL_accept 8 = .ok (.i2l, 1) := by decide +kernel
theorem dL_accept_9 : decode cL_accept 9 = .ok (.lastore, 1) := by decide +kernel
theorem dL_accept_10 : decode cL_accept 10 = .ok (.goto 11, 3) := by decide +kernel
theorem dL_accept_13 : decode cL_accept 13 = .ok (.astore 4, 2) := by decide +kernel
theorem dL_accept_15 : decode cL_accept 15 = .ok (.iconst 1, 1) := by decide +kernel
theorem dL_accept_16 : decode cL_accept 16 = .ok (.ireturn, 1) := by decide +kernel
theorem dL_accept_17 : decode cL_accept 17 = .ok (.astore 4, 2) := by decide +kernel
theorem dL_accept_19 : decode cL_accept 19 = .ok (.iconst 2, 1) := by decide +kernel
theorem dL_accept_20 : decode cL_accept 20 = .ok (.ireturn, 1) := by decide +kernel
theorem dL_accept_21 : decode cL_accept 21 = .ok (.iconst 0, 1) := by decide +kernel
theorem dL_accept_22 : decode cL_accept 22 = .ok (.ireturn, 1) := by decide +kernel
theorem dL_leave_0 : decode cL_leave 0 = .ok (.aload_n 3, 1) := by decide +kernel
theorem dL_leave_1 : decode cL_leave 1 = .ok (.iconst 0, 1) := by decide +kernel
theorem dL_leave_2 : decode cL_leave 2 = .ok (.aload_n 0, 1) := by decide +kernel
theorem dL_leave_3 : decode cL_leave 3 = .ok (.iload_n 1, 1) := by decide +kernel
theorem dL_leave_4 : decode cL_leave 4 = .ok (.iload_n 2, 1) := by decide +kernel
theorem dL_leave_5 : decode cL_leave 5 = .ok (.invokevirtual 85, 3) := by decide +kernel
theorem dL_leave_8 : decode cL_leave 8 = .ok (.ifCond .eq 7, 3) := by decide +kernel
theorem dL_leave_11 : decode cL_leave 11 = .ok (.lconst 1, 1) := by decide +kernel
theorem dL_leave_12 : decode cL_leave 12 = .ok (.goto 4, 3) := by decide +kernel
theorem dL_leave_15 : decode cL_leave 15 = .ok (.lconst 0, 1) := by decide +kernel
theorem dL_leave_16 : decode cL_leave 16 = .ok (.lastore, 1) := by decide +kernel
theorem dL_leave_17 : decode cL_leave 17 = .ok (.goto 11, 3) := by decide +kernel
theorem dL_leave_20 : decode cL_leave 20 = .ok (.astore 4, 2) := by decide +kernel
theorem dL_leave_22 : decode cL_leave 22 = .ok (.iconst 1, 1) := by decide +kernel
theorem dL_leave_23 : decode cL_leave 23 = .ok (.ireturn, 1) := by decide +kernel
theorem dL_leave_24 : decode cL_leave 24 = .ok (.astore 4, 2) := by decide +kernel
theorem dL_leave_26 : decode cL_leave 26 = .ok (.iconst 2, 1) := by decide +kernel
theorem dL_leave_27 : decode cL_leave 27 = .ok (.ireturn, 1) := by decide +kernel
theorem dL_leave_28 : decode cL_leave 28 = .ok (.iconst 0, 1) := by decide +kernel
theorem dL_leave_29 : decode cL_leave 29 = .ok (.ireturn, 1) := by decide +kernel
theorem dL_advance_0 : decode cL_advance 0 = .ok (.aload_n 2, 1) := by decide +kernel
theorem dL_advance_1 : decode cL_advance 1 = .ok (.iconst 0, 1) := by decide +kernel
theorem dL_advance_2 : decode cL_advance 2 = .ok (.aload_n 0, 1) := by decide +kernel
theorem dL_advance_3 : decode cL_advance 3 = .ok (.iload_n 1, 1) := by decide +kernel
theorem dL_advance_4 : decode cL_advance 4 = .ok (.invokevirtual 88, 3) := by decide +kernel
theorem dL_advance_7 : decode cL_advance 7 = .ok (.i2l, 1) := by decide +kernel
theorem dL_advance_8 : decode cL_advance 8 = .ok (.lastore, 1) := by decide +kernel
theorem dL_advance_9 : decode cL_advance 9 = .ok (.goto 6, 3) := by decide +kernel
theorem dL_advance_12 : decode cL_advance 12 = .ok (.astore_n 3, 1) := by decide +kernel
theorem dL_advance_13 : decode cL_advance 13 = .ok (.iconst 1, 1) := by decide +kernel
theorem dL_advance_14 : decode cL_advance 14 = .ok (.ireturn, 1) := by decide +kernel
theorem dL_advance_15 : decode cL_advance 15 = .ok (.iconst 0, 1) := by decide +kernel
theorem dL_advance_16 : decode cL_advance 16 = .ok (.ireturn, 1) := by decide +kernel
theorem dL_waiting_0 : decode cL_waiting 0 = .ok (.aload_n 2, 1) := by decide +kernel
theorem dL_waiting_1 : decode cL_waiting 1 = .ok (.iconst 0, 1) := by decide +kernel
theorem dL_waiting_2 : decode cL_waiting 2 = .ok (.aload_n 0, 1) := by decide +kernel
theorem dL_waiting_3 : decode cL_waiting 3 = .ok (.iload_n 1, 1) := by decide +kernel
theorem dL_waiting_4 : decode cL_waiting 4 = .ok (.invokevirtual 91, 3) := by decide +kernel
theorem dL_waiting_7 : decode cL_waiting 7 = .ok (.i2l, 1) := by decide +kernel
theorem dL_waiting_8 : decode cL_waiting 8 = .ok (.lastore, 1) := by decide +kernel
theorem dL_waiting_9 : decode cL_waiting 9 = .ok (.goto 6, 3) := by decide +kernel
theorem dL_waiting_12 : decode cL_waiting 12 = .ok (.astore_n 3, 1) := by decide +kernel
theorem dL_waiting_13 : decode cL_waiting 13 = .ok (.iconst 1, 1) := by decide +kernel
theorem dL_waiting_14 : decode cL_waiting 14 = .ok (.ireturn, 1) := by decide +kernel
theorem dL_waiting_15 : decode cL_waiting 15 = .ok (.iconst 0, 1) := by decide +kernel
theorem dL_waiting_16 : decode cL_waiting 16 = .ok (.ireturn, 1) := by decide +kernel
theorem dL_waitingAt_0 : decode cL_waitingAt 0 = .ok (.aload_n 3, 1) := by decide +kernel
theorem dL_waitingAt_1 : decode cL_waitingAt 1 = .ok (.iconst 0, 1) := by decide +kernel
theorem dL_waitingAt_2 : decode cL_waitingAt 2 = .ok (.aload_n 0, 1) := by decide +kernel
theorem dL_waitingAt_3 : decode cL_waitingAt 3 = .ok (.iload_n 1, 1) := by decide +kernel
theorem dL_waitingAt_4 : decode cL_waitingAt 4 = .ok (.iload_n 2, 1) := by decide +kernel
theorem dL_waitingAt_5 : decode cL_waitingAt 5 = .ok (.invokevirtual 94, 3) := by decide +kernel
theorem dL_waitingAt_8 : decode cL_waitingAt 8 = .ok (.i2l, 1) := by decide +kernel
theorem dL_waitingAt_9 : decode cL_waitingAt 9 = .ok (.lastore, 1) := by decide +kernel
theorem dL_waitingAt_10 : decode cL_waitingAt 10 = .ok (.goto 7, 3) := by decide +kernel
theorem dL_waitingAt_13 : decode cL_waitingAt 13 = .ok (.astore 4, 2) := by decide +kernel
theorem dL_waitingAt_15 : decode cL_waitingAt 15 = .ok (.iconst 1, 1) := by decide +kernel
theorem dL_waitingAt_16 : decode cL_waitingAt 16 = .ok (.ireturn, 1) := by decide +kernel
theorem dL_waitingAt_17 : decode cL_waitingAt 17 = .ok (.iconst 0, 1) := by decide +kernel
theorem dL_waitingAt_18 : decode cL_waitingAt 18 = .ok (.ireturn, 1) := by decide +kernel
theorem dL_offerDays_0 : decode cL_offerDays 0 = .ok (.aload_n 3, 1) := by decide +kernel
theorem dL_offerDays_1 : decode cL_offerDays 1 = .ok (.iconst 0, 1) := by decide +kernel
theorem dL_offerDays_2 : decode cL_offerDays 2 = .ok (.aload_n 0, 1) := by decide +kernel
theorem dL_offerDays_3 : decode cL_offerDays 3 = .ok (.iload_n 1, 1) := by decide +kernel
theorem dL_offerDays_4 : decode cL_offerDays 4 = .ok (.iload_n 2, 1) := by decide +kernel
theorem dL_offerDays_5 : decode cL_offerDays 5 = .ok (.invokevirtual 97, 3) := by decide +kernel
theorem dL_offerDays_8 : decode cL_offerDays 8 = .ok (.i2l, 1) := by decide +kernel
theorem dL_offerDays_9 : decode cL_offerDays 9 = .ok (.lastore, 1) := by decide +kernel
theorem dL_offerDays_10 : decode cL_offerDays 10 = .ok (.goto 7, 3) := by decide +kernel
theorem dL_offerDays_13 : decode cL_offerDays 13 = .ok (.astore 4, 2) := by decide +kernel
theorem dL_offerDays_15 : decode cL_offerDays 15 = .ok (.iconst 1, 1) := by decide +kernel
theorem dL_offerDays_16 : decode cL_offerDays 16 = .ok (.ireturn, 1) := by decide +kernel
theorem dL_offerDays_17 : decode cL_offerDays 17 = .ok (.iconst 0, 1) := by decide +kernel
theorem dL_offerDays_18 : decode cL_offerDays 18 = .ok (.ireturn, 1) := by decide +kernel
theorem dL_runLottery_0 : decode cL_runLottery 0 = .ok (.aload_n 2, 1) := by decide +kernel
theorem dL_runLottery_1 : decode cL_runLottery 1 = .ok (.iconst 0, 1) := by decide +kernel
theorem dL_runLottery_2 : decode cL_runLottery 2 = .ok (.aload_n 0, 1) := by decide +kernel
theorem dL_runLottery_3 : decode cL_runLottery 3 = .ok (.iload_n 1, 1) := by decide +kernel
theorem dL_runLottery_4 : decode cL_runLottery 4 = .ok (.invokevirtual 100, 3) := by decide +kernel
theorem dL_runLottery_7 : decode cL_runLottery 7 = .ok (.i2l, 1) := by decide +kernel
theorem dL_runLottery_8 : decode cL_runLottery 8 = .ok (.lastore, 1) := by decide +kernel
theorem dL_runLottery_9 : decode cL_runLottery 9 = .ok (.goto 6, 3) := by decide +kernel
theorem dL_runLottery_12 : decode cL_runLottery 12 = .ok (.astore_n 3, 1) := by decide +kernel
theorem dL_runLottery_13 : decode cL_runLottery 13 = .ok (.iconst 1, 1) := by decide +kernel
theorem dL_runLottery_14 : decode cL_runLottery 14 = .ok (.ireturn, 1) := by decide +kernel
theorem dL_runLottery_15 : decode cL_runLottery 15 = .ok (.iconst 0, 1) := by decide +kernel
theorem dL_runLottery_16 : decode cL_runLottery 16 = .ok (.ireturn, 1) := by decide +kernel
theorem dL_lotteryNumber_0 : decode cL_lotteryNumber 0 = .ok (.aload_n 2, 1) := by decide +kernel
theorem dL_lotteryNumber_1 : decode cL_lotteryNumber 1 = .ok (.iconst 0, 1) := by decide +kernel
theorem dL_lotteryNumber_2 : decode cL_lotteryNumber 2 = .ok (.aload_n 0, 1) := by decide +kernel
theorem dL_lotteryNumber_3 : decode cL_lotteryNumber 3 = .ok (.iload_n 1, 1) := by decide +kernel
theorem dL_lotteryNumber_4 : decode cL_lotteryNumber 4 = .ok (.invokevirtual 103, 3) := by decide +kernel
theorem dL_lotteryNumber_7 : decode cL_lotteryNumber 7 = .ok (.i2l, 1) := by decide +kernel
theorem dL_lotteryNumber_8 : decode cL_lotteryNumber 8 = .ok (.lastore, 1) := by decide +kernel
theorem dL_lotteryNumber_9 : decode cL_lotteryNumber 9 = .ok (.goto 6, 3) := by decide +kernel
theorem dL_lotteryNumber_12 : decode cL_lotteryNumber 12 = .ok (.astore_n 3, 1) := by decide +kernel
theorem dL_lotteryNumber_13 : decode cL_lotteryNumber 13 = .ok (.iconst 1, 1) := by decide +kernel
theorem dL_lotteryNumber_14 : decode cL_lotteryNumber 14 = .ok (.ireturn, 1) := by decide +kernel
theorem dL_lotteryNumber_15 : decode cL_lotteryNumber 15 = .ok (.iconst 0, 1) := by decide +kernel
theorem dL_lotteryNumber_16 : decode cL_lotteryNumber 16 = .ok (.ireturn, 1) := by decide +kernel
theorem dL_putUp_0 : decode cL_putUp 0 = .ok (.aload_n 3, 1) := by decide +kernel
theorem dL_putUp_1 : decode cL_putUp 1 = .ok (.iconst 0, 1) := by decide +kernel
theorem dL_putUp_2 : decode cL_putUp 2 = .ok (.aload_n 0, 1) := by decide +kernel
theorem dL_putUp_3 : decode cL_putUp 3 = .ok (.iload_n 1, 1) := by decide +kernel
theorem dL_putUp_4 : decode cL_putUp 4 = .ok (.iload_n 2, 1) := by decide +kernel
theorem dL_putUp_5 : decode cL_putUp 5 = .ok (.invokevirtual 106, 3) := by decide +kernel
theorem dL_putUp_8 : decode cL_putUp 8 = .ok (.i2l, 1) := by decide +kernel
theorem dL_putUp_9 : decode cL_putUp 9 = .ok (.lastore, 1) := by decide +kernel
theorem dL_putUp_10 : decode cL_putUp 10 = .ok (.goto 11, 3) := by decide +kernel
theorem dL_putUp_13 : decode cL_putUp 13 = .ok (.astore 4, 2) := by decide +kernel
theorem dL_putUp_15 : decode cL_putUp 15 = .ok (.iconst 1, 1) := by decide +kernel
theorem dL_putUp_16 : decode cL_putUp 16 = .ok (.ireturn, 1) := by decide +kernel
theorem dL_putUp_17 : decode cL_putUp 17 = .ok (.astore 4, 2) := by decide +kernel
theorem dL_putUp_19 : decode cL_putUp 19 = .ok (.iconst 2, 1) := by decide +kernel
theorem dL_putUp_20 : decode cL_putUp 20 = .ok (.ireturn, 1) := by decide +kernel
theorem dL_putUp_21 : decode cL_putUp 21 = .ok (.iconst 0, 1) := by decide +kernel
theorem dL_putUp_22 : decode cL_putUp 22 = .ok (.ireturn, 1) := by decide +kernel
theorem dL_withdraw_0 : decode cL_withdraw 0 = .ok (.aload_n 2, 1) := by decide +kernel
theorem dL_withdraw_1 : decode cL_withdraw 1 = .ok (.iconst 0, 1) := by decide +kernel
theorem dL_withdraw_2 : decode cL_withdraw 2 = .ok (.aload_n 0, 1) := by decide +kernel
theorem dL_withdraw_3 : decode cL_withdraw 3 = .ok (.iload_n 1, 1) := by decide +kernel
theorem dL_withdraw_4 : decode cL_withdraw 4 = .ok (.invokevirtual 109, 3) := by decide +kernel
theorem dL_withdraw_7 : decode cL_withdraw 7 = .ok (.i2l, 1) := by decide +kernel
theorem dL_withdraw_8 : decode cL_withdraw 8 = .ok (.lastore, 1) := by decide +kernel
theorem dL_withdraw_9 : decode cL_withdraw 9 = .ok (.goto 6, 3) := by decide +kernel
theorem dL_withdraw_12 : decode cL_withdraw 12 = .ok (.astore_n 3, 1) := by decide +kernel
theorem dL_withdraw_13 : decode cL_withdraw 13 = .ok (.iconst 1, 1) := by decide +kernel
theorem dL_withdraw_14 : decode cL_withdraw 14 = .ok (.ireturn, 1) := by decide +kernel
theorem dL_withdraw_15 : decode cL_withdraw 15 = .ok (.iconst 0, 1) := by decide +kernel
theorem dL_withdraw_16 : decode cL_withdraw 16 = .ok (.ireturn, 1) := by decide +kernel
theorem dL_placeUp_0 : decode cL_placeUp 0 = .ok (.aload_n 2, 1) := by decide +kernel
theorem dL_placeUp_1 : decode cL_placeUp 1 = .ok (.iconst 0, 1) := by decide +kernel
theorem dL_placeUp_2 : decode cL_placeUp 2 = .ok (.aload_n 0, 1) := by decide +kernel
theorem dL_placeUp_3 : decode cL_placeUp 3 = .ok (.iload_n 1, 1) := by decide +kernel
theorem dL_placeUp_4 : decode cL_placeUp 4 = .ok (.invokevirtual 112, 3) := by decide +kernel
theorem dL_placeUp_7 : decode cL_placeUp 7 = .ok (.i2l, 1) := by decide +kernel
theorem dL_placeUp_8 : decode cL_placeUp 8 = .ok (.lastore, 1) := by decide +kernel
theorem dL_placeUp_9 : decode cL_placeUp 9 = .ok (.goto 6, 3) := by decide +kernel
theorem dL_placeUp_12 : decode cL_placeUp 12 = .ok (.astore_n 3, 1) := by decide +kernel
theorem dL_placeUp_13 : decode cL_placeUp 13 = .ok (.iconst 1, 1) := by decide +kernel
theorem dL_placeUp_14 : decode cL_placeUp 14 = .ok (.ireturn, 1) := by decide +kernel
theorem dL_placeUp_15 : decode cL_placeUp 15 = .ok (.iconst 0, 1) := by decide +kernel
theorem dL_placeUp_16 : decode cL_placeUp 16 = .ok (.ireturn, 1) := by decide +kernel
theorem dL_pointsTo_0 : decode cL_pointsTo 0 = .ok (.aload_n 2, 1) := by decide +kernel
theorem dL_pointsTo_1 : decode cL_pointsTo 1 = .ok (.iconst 0, 1) := by decide +kernel
theorem dL_pointsTo_2 : decode cL_pointsTo 2 = .ok (.aload_n 0, 1) := by decide +kernel
theorem dL_pointsTo_3 : decode cL_pointsTo 3 = .ok (.iload_n 1, 1) := by decide +kernel
theorem dL_pointsTo_4 : decode cL_pointsTo 4 = .ok (.invokevirtual 115, 3) := by decide +kernel
theorem dL_pointsTo_7 : decode cL_pointsTo 7 = .ok (.i2l, 1) := by decide +kernel
theorem dL_pointsTo_8 : decode cL_pointsTo 8 = .ok (.lastore, 1) := by decide +kernel
theorem dL_pointsTo_9 : decode cL_pointsTo 9 = .ok (.goto 9, 3) := by decide +kernel
theorem dL_pointsTo_12 : decode cL_pointsTo 12 = .ok (.astore_n 3, 1) := by decide +kernel
theorem dL_pointsTo_13 : decode cL_pointsTo 13 = .ok (.iconst 1, 1) := by decide +kernel
theorem dL_pointsTo_14 : decode cL_pointsTo 14 = .ok (.ireturn, 1) := by decide +kernel
theorem dL_pointsTo_15 : decode cL_pointsTo 15 = .ok (.astore_n 3, 1) := by decide +kernel
theorem dL_pointsTo_16 : decode cL_pointsTo 16 = .ok (.iconst 2, 1) := by decide +kernel
theorem dL_pointsTo_17 : decode cL_pointsTo 17 = .ok (.ireturn, 1) := by decide +kernel
theorem dL_pointsTo_18 : decode cL_pointsTo 18 = .ok (.iconst 0, 1) := by decide +kernel
theorem dL_pointsTo_19 : decode cL_pointsTo 19 = .ok (.ireturn, 1) := by decide +kernel
