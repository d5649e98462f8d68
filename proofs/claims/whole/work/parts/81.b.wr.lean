/-! the law: its wrappers, more -/
theorem dL_plannedAt_0 : decode cL_plannedAt 0 = .ok (.aload_n 3, 1) := by decide +kernel
theorem dL_plannedAt_1 : decode cL_plannedAt 1 = .ok (.iconst 0, 1) := by decide +kernel
theorem dL_plannedAt_2 : decode cL_plannedAt 2 = .ok (.aload_n 0, 1) := by decide +kernel
theorem dL_plannedAt_3 : decode cL_plannedAt 3 = .ok (.iload_n 1, 1) := by decide +kernel
theorem dL_plannedAt_4 : decode cL_plannedAt 4 = .ok (.iload_n 2, 1) := by decide +kernel
theorem dL_plannedAt_5 : decode cL_plannedAt 5 = .ok (.invokevirtual 77, 3) := by decide +kernel
theorem dL_plannedAt_8 : decode cL_plannedAt 8 = .ok (.i2l, 1) := by decide +kernel
theorem dL_plannedAt_9 : decode cL_plannedAt 9 = .ok (.lastore, 1) := by decide +kernel
theorem dL_plannedAt_10 : decode cL_plannedAt 10 = .ok (.goto 7, 3) := by decide +kernel
theorem dL_plannedAt_13 : decode cL_plannedAt 13 = .ok (.astore 4, 2) := by decide +kernel
theorem dL_plannedAt_15 : decode cL_plannedAt 15 = .ok (.iconst 1, 1) := by decide +kernel
theorem dL_plannedAt_16 : decode cL_plannedAt 16 = .ok (.ireturn, 1) := by decide +kernel
theorem dL_plannedAt_17 : decode cL_plannedAt 17 = .ok (.iconst 0, 1) := by decide +kernel
theorem dL_plannedAt_18 : decode cL_plannedAt 18 = .ok (.ireturn, 1) := by decide +kernel
theorem dL_delay_0 : decode cL_delay 0 = .ok (.aload_n 2, 1) := by decide +kernel
theorem dL_delay_1 : decode cL_delay 1 = .ok (.iconst 0, 1) := by decide +kernel
theorem dL_delay_2 : decode cL_delay 2 = .ok (.aload_n 0, 1) := by decide +kernel
theorem dL_delay_3 : decode cL_delay 3 = .ok (.iload_n 1, 1) := by decide +kernel
theorem dL_delay_4 : decode cL_delay 4 = .ok (.invokevirtual 80, 3) := by decide +kernel
theorem dL_delay_7 : decode cL_delay 7 = .ok (.i2l, 1) := by decide +kernel
theorem dL_delay_8 : decode cL_delay 8 = .ok (.lastore, 1) := by decide +kernel
theorem dL_delay_9 : decode cL_delay 9 = .ok (.goto 6, 3) := by decide +kernel
theorem dL_delay_12 : decode cL_delay 12 = .ok (.astore_n 3, 1) := by decide +kernel
theorem dL_delay_13 : decode cL_delay 13 = .ok (.iconst 1, 1) := by decide +kernel
theorem dL_delay_14 : decode cL_delay 14 = .ok (.ireturn, 1) := by decide +kernel
theorem dL_delay_15 : decode cL_delay 15 = .ok (.iconst 0, 1) := by decide +kernel
theorem dL_delay_16 : decode cL_delay 16 = .ok (.ireturn, 1) := by decide +kernel
theorem dL_isLate_0 : decode cL_isLate 0 = .ok (.aload_n 2, 1) := by decide +kernel
theorem dL_isLate_1 : decode cL_isLate 1 = .ok (.iconst 0, 1) := by decide +kernel
theorem dL_isLate_2 : decode cL_isLate 2 = .ok (.aload_n 0, 1) := by decide +kernel
theorem dL_isLate_3 : decode cL_isLate 3 = .ok (.iload_n 1, 1) := by decide +kernel
theorem dL_isLate_4 : decode cL_isLate 4 = .ok (.invokevirtual 83, 3) := by decide +kernel
theorem dL_isLate_7 : decode cL_isLate 7 = .ok (.ifCond .eq 7, 3) := by decide +kernel
theorem dL_isLate_10 : decode cL_isLate 10 = .ok (.lconst 1, 1) := by decide +kernel
theorem dL_isLate_11 : decode cL_isLate 11 = .ok (.goto 4, 3) := by decide +kernel
theorem dL_isLate_14 : decode cL_isLate 14 = .ok (.lconst 0, 1) := by decide +kernel
theorem dL_isLate_15 : decode cL_isLate 15 = .ok (.lastore, 1) := by decide +kernel
theorem dL_isLate_16 : decode cL_isLate 16 = .ok (.goto 6, 3) := by decide +kernel
theorem dL_isLate_19 : decode cL_isLate 19 = .ok (.astore_n 3, 1) := by decide +kernel
theorem dL_isLate_20 : decode cL_isLate 20 = .ok (.iconst 1, 1) := by decide +kernel
theorem dL_isLate_21 : decode cL_isLate 21 = .ok (.ireturn, 1) := by decide +kernel
theorem dL_isLate_22 : decode cL_isLate 22 = .ok (.iconst 0, 1) := by decide +kernel
theorem dL_isLate_23 : decode cL_isLate 23 = .ok (.ireturn, 1) := by decide +kernel
theorem dL_costOf_0 : decode cL_costOf 0 = .ok (.aload_n 2, 1) := by decide +kernel
theorem dL_costOf_1 : decode cL_costOf 1 = .ok (.iconst 0, 1) := by decide +kernel
theorem dL_costOf_2 : decode cL_costOf 2 = .ok (.aload_n 0, 1) := by decide +kernel
theorem dL_costOf_3 : decode cL_costOf 3 = .ok (.iload_n 1, 1) := by decide +kernel
theorem dL_costOf_4 : decode cL_costOf 4 = .ok (.invokevirtual 86, 3) := by decide +kernel
theorem dL_costOf_7 : decode cL_costOf 7 = .ok (.f2d, 1) := by decide +kernel
theorem dL_costOf_8 : decode cL_costOf 8 = .ok (.dastore, 1) := by decide +kernel
theorem dL_costOf_9 : decode cL_costOf 9 = .ok (.goto 6, 3) := by decide +kernel
theorem dL_costOf_12 : decode cL_costOf 12 = .ok (.astore_n 3, 1) := by decide +kernel
theorem dL_costOf_13 : decode cL_costOf 13 = .ok (.iconst 1, 1) := by decide +kernel
theorem dL_costOf_14 : decode cL_costOf 14 = .ok (.ireturn, 1) := by decide +kernel
theorem dL_costOf_15 : decode cL_costOf 15 = .ok (.iconst 0, 1) := by decide +kernel
theorem dL_costOf_16 : decode cL_costOf 16 = .ok (.ireturn, 1) := by decide +kernel
theorem dL_planCost_0 : decode cL_planCost 0 = .ok (.aload_n 2, 1) := by decide +kernel
theorem dL_planCost_1 : decode cL_planCost 1 = .ok (.iconst 0, 1) := by decide +kernel
theorem dL_planCost_2 : decode cL_planCost 2 = .ok (.aload_n 0, 1) := by decide +kernel
theorem dL_planCost_3 : decode cL_planCost 3 = .ok (.iload_n 1, 1) := by decide +kernel
theorem dL_planCost_4 : decode cL_planCost 4 = .ok (.invokevirtual 90, 3) := by decide +kernel
theorem dL_planCost_7 : decode cL_planCost 7 = .ok (.lastore, 1) := by decide +kernel
theorem dL_planCost_8 : decode cL_planCost 8 = .ok (.goto 6, 3) := by decide +kernel
theorem dL_planCost_11 : decode cL_planCost 11 = .ok (.astore_n 3, 1) := by decide +kernel
theorem dL_planCost_12 : decode cL_planCost 12 = .ok (.iconst 1, 1) := by decide +kernel
theorem dL_planCost_13 : decode cL_planCost 13 = .ok (.ireturn, 1) := by decide +kernel
theorem dL_planCost_14 : decode cL_planCost 14 = .ok (.iconst 0, 1) := by decide +kernel
theorem dL_planCost_15 : decode cL_planCost 15 = .ok (.ireturn, 1) := by decide +kernel
theorem dL_firstComeCost_0 : decode cL_firstComeCost 0 = .ok (.aload_n 2, 1) := by decide +kernel
theorem dL_firstComeCost_1 : decode cL_firstComeCost 1 = .ok (.iconst 0, 1) := by decide +kernel
theorem dL_firstComeCost_2 : decode cL_firstComeCost 2 = .ok (.aload_n 0, 1) := by decide +kernel
theorem dL_firstComeCost_3 : decode cL_firstComeCost 3 = .ok (.iload_n 1, 1) := by decide +kernel
theorem dL_firstComeCost_4 : decode cL_firstComeCost 4 = .ok (.invokevirtual 94, 3) := by decide +kernel
theorem dL_firstComeCost_7 : decode cL_firstComeCost 7 = .ok (.lastore, 1) := by decide +kernel
theorem dL_firstComeCost_8 : decode cL_firstComeCost 8 = .ok (.goto 6, 3) := by decide +kernel
theorem dL_firstComeCost_11 : decode cL_firstComeCost 11 = .ok (.astore_n 3, 1) := by decide +kernel
theorem dL_firstComeCost_12 : decode cL_firstComeCost 12 = .ok (.iconst 1, 1) := by decide +kernel
theorem dL_firstComeCost_13 : decode cL_firstComeCost 13 = .ok (.ireturn, 1) := by decide +kernel
theorem dL_firstComeCost_14 : decode cL_firstComeCost 14 = .ok (.iconst 0, 1) := by decide +kernel
theorem dL_firstComeCost_15 : decode cL_firstComeCost 15 = .ok (.ireturn, 1) := by decide +kernel
theorem dL_allowedSequences_0 : decode cL_allowedSequences 0 = .ok (.aload_n 2, 1) := by decide +kernel
theorem dL_allowedSequences_1 : decode cL_allowedSequences 1 = .ok (.iconst 0, 1) := by decide +kernel
theorem dL_allowedSequences_2 : decode cL_allowedSequences 2 = .ok (.aload_n 0, 1) := by decide +kernel
theorem dL_allowedSequences_3 : decode cL_allowedSequences 3 = .ok (.iload_n 1, 1) := by decide +kernel
theorem dL_allowedSequences_4 : decode cL_allowedSequences 4 = .ok (.invokevirtual 97, 3) := by decide +kernel
theorem dL_allowedSequences_7 : decode cL_allowedSequences 7 = .ok (.i2l, 1) := by decide +kernel
theorem dL_allowedSequences_8 : decode cL_allowedSequences 8 = .ok (.lastore, 1) := by decide +kernel
theorem dL_allowedSequences_9 : decode cL_allowedSequences 9 = .ok (.goto 6, 3) := by decide +kernel
theorem dL_allowedSequences_12 : decode cL_allowedSequences 12 = .ok (.astore_n 3, 1) := by decide +kernel
theorem dL_allowedSequences_13 : decode cL_allowedSequences 13 = .ok (.iconst 1, 1) := by decide +kernel
theorem dL_allowedSequences_14 : decode cL_allowedSequences 14 = .ok (.ireturn, 1) := by decide +kernel
theorem dL_allowedSequences_15 : decode cL_allowedSequences 15 = .ok (.iconst 0, 1) := by decide +kernel
theorem dL_allowedSequences_16 : decode cL_allowedSequences 16 = .ok (.ireturn, 1) := by decide +kernel
theorem dL_equalSequences_0 : decode cL_equalSequences 0 = .ok (.aload_n 2, 1) := by decide +kernel
theorem dL_equalSequences_1 : decode cL_equalSequences 1 = .ok (.iconst 0, 1) := by decide +kernel
theorem dL_equalSequences_2 : decode cL_equalSequences 2 = .ok (.aload_n 0, 1) := by decide +kernel
theorem dL_equalSequences_3 : decode cL_equalSequences 3 = .ok (.iload_n 1, 1) := by decide +kernel
theorem dL_equalSequences_4 : decode cL_equalSequences 4 = .ok (.invokevirtual 100, 3) := by decide +kernel
theorem dL_equalSequences_7 : decode cL_equalSequences 7 = .ok (.i2l, 1) := by decide +kernel
theorem dL_equalSequences_8 : decode cL_equalSequences 8 = .ok (.lastore, 1) := by decide +kernel
theorem dL_equalSequences_9 : decode cL_equalSequences 9 = .ok (.goto 6, 3) := by decide +kernel
theorem dL_equalSequences_12 : decode cL_equalSequences 12 = .ok (.astore_n 3, 1) := by decide +kernel
theorem dL_equalSequences_13 : decode cL_equalSequences 13 = .ok (.iconst 1, 1) := by decide +kernel
theorem dL_equalSequences_14 : decode cL_equalSequences 14 = .ok (.ireturn, 1) := by decide +kernel
theorem dL_equalSequences_15 : decode cL_equalSequences 15 = .ok (.iconst 0, 1) := by decide +kernel
theorem dL_equalSequences_16 : decode cL_equalSequences 16 = .ok (.ireturn, 1) := by decide +kernel
theorem dL_slack_0 : decode cL_slack 0 = .ok (.aload_n 2, 1) := by decide +kernel
theorem dL_slack_1 : decode cL_slack 1 = .ok (.iconst 0, 1) := by decide +kernel
theorem dL_slack_2 : decode cL_slack 2 = .ok (.aload_n 0, 1) := by decide +kernel
theorem dL_slack_3 : decode cL_slack 3 = .ok (.iload_n 1, 1) := by decide +kernel
theorem dL_slack_4 : decode cL_slack 4 = .ok (.invokevirtual 103, 3) := by decide +kernel
theorem dL_slack_7 : decode cL_slack 7 = .ok (.i2l, 1) := by decide +kernel
theorem dL_slack_8 : decode cL_slack 8 = .ok (.lastore, 1) := by decide +kernel
theorem dL_slack_9 : decode cL_slack 9 = .ok (.goto 6, 3) := by decide +kernel
theorem dL_slack_12 : decode cL_slack 12 = .ok (.astore_n 3, 1) := by decide +kernel
theorem dL_slack_13 : decode cL_slack 13 = .ok (.iconst 1, 1) := by decide +kernel
theorem dL_slack_14 : decode cL_slack 14 = .ok (.ireturn, 1) := by decide +kernel
theorem dL_slack_15 : decode cL_slack 15 = .ok (.iconst 0, 1) := by decide +kernel
theorem dL_slack_16 : decode cL_slack 16 = .ok (.ireturn, 1) := by decide +kernel
theorem dL_binding_0 : decode cL_binding 0 = .ok (.aload_n 2, 1) := by decide +kernel
theorem dL_binding_1 : decode cL_binding 1 = .ok (.iconst 0, 1) := by decide +kernel
theorem dL_binding_2 : decode cL_binding 2 = .ok (.aload_n 0, 1) := by decide +kernel
theorem dL_binding_3 : decode cL_binding 3 = .ok (.iload_n 1, 1) := by decide +kernel
theorem dL_binding_4 : decode cL_binding 4 = .ok (.invokevirtual 106, 3) := by decide +kernel
theorem dL_binding_7 : decode cL_binding 7 = .ok (.i2l, 1) := by decide +kernel
theorem dL_binding_8 : decode cL_binding 8 = .ok (.lastore, 1) := by decide +kernel
theorem dL_binding_9 : decode cL_binding 9 = .ok (.goto 6, 3) := by decide +kernel
theorem dL_binding_12 : decode cL_binding 12 = .ok (.astore_n 3, 1) := by decide +kernel
theorem dL_binding_13 : decode cL_binding 13 = .ok (.iconst 1, 1) := by decide +kernel
theorem dL_binding_14 : decode cL_binding 14 = .ok (.ireturn, 1) := by decide +kernel
theorem dL_binding_15 : decode cL_binding 15 = .ok (.iconst 0, 1) := by decide +kernel
theorem dL_binding_16 : decode cL_binding 16 = .ok (.ireturn, 1) := by decide +kernel
theorem dL_lastTime_0 : decode cL_lastTime 0 = .ok (.aload_n 2, 1) := by decide +kernel
theorem dL_lastTime_1 : decode cL_lastTime 1 = .ok (.iconst 0, 1) := by decide +kernel
theorem dL_lastTime_2 : decode cL_lastTime 2 = .ok (.aload_n 0, 1) := by decide +kernel
theorem dL_lastTime_3 : decode cL_lastTime 3 = .ok (.iload_n 1, 1) := by decide +kernel
theorem dL_lastTime_4 : decode cL_lastTime 4 = .ok (.invokevirtual 109, 3) := by decide +kernel
theorem dL_lastTime_7 : decode cL_lastTime 7 = .ok (.i2l, 1) := by decide +kernel
theorem dL_lastTime_8 : decode cL_lastTime 8 = .ok (.lastore, 1) := by decide +kernel
theorem dL_lastTime_9 : decode cL_lastTime 9 = .ok (.goto 6, 3) := by decide +kernel
theorem dL_lastTime_12 : decode cL_lastTime 12 = .ok (.astore_n 3, 1) := by decide +kernel
theorem dL_lastTime_13 : decode cL_lastTime 13 = .ok (.iconst 1, 1) := by decide +kernel
theorem dL_lastTime_14 : decode cL_lastTime 14 = .ok (.ireturn, 1) := by decide +kernel
theorem dL_lastTime_15 : decode cL_lastTime 15 = .ok (.iconst 0, 1) := by decide +kernel
theorem dL_lastTime_16 : decode cL_lastTime 16 = .ok (.ireturn, 1) := by decide +kernel
theorem dL_aroundCount_0 : decode cL_aroundCount 0 = .ok (.aload_n 2, 1) := by decide +kernel
theorem dL_aroundCount_1 : decode cL_aroundCount 1 = .ok (.iconst 0, 1) := by decide +kernel
theorem dL_aroundCount_2 : decode cL_aroundCount 2 = .ok (.aload_n 0, 1) := by decide +kernel
theorem dL_aroundCount_3 : decode cL_aroundCount 3 = .ok (.iload_n 1, 1) := by decide +kernel
theorem dL_aroundCount_4 : decode cL_aroundCount 4 = .ok (.invokevirtual 112, 3) := by decide +kernel
theorem dL_aroundCount_7 : decode cL_aroundCount 7 = .ok (.i2l, 1) := by decide +kernel
theorem dL_aroundCount_8 : decode cL_aroundCount 8 = .ok (.lastore, 1) := by decide +kernel
theorem dL_aroundCount_9 : decode cL_aroundCount 9 = .ok (.goto 6, 3) := by decide +kernel
theorem dL_aroundCount_12 : decode cL_aroundCount 12 = .ok (.astore_n 3, 1) := by decide +kernel
theorem dL_aroundCount_13 : decode cL_aroundCount 13 = .ok (.iconst 1, 1) := by decide +kernel
theorem dL_aroundCount_14 : decode cL_aroundCount 14 = .ok (.ireturn, 1) := by decide +kernel
theorem dL_aroundCount_15 : decode cL_aroundCount 15 = .ok (.iconst 0, 1) := by decide +kernel
theorem dL_aroundCount_16 : decode cL_aroundCount 16 = .ok (.ireturn, 1) := by decide +kernel
theorem dL_costWithShift_0 : decode cL_costWithShift 0 = .ok (.aload_n 2, 1) := by decide +kernel
theorem dL_costWithShift_1 : decode cL_costWithShift 1 = .ok (.iconst 0, 1) := by decide +kernel
theorem dL_costWithShift_2 : decode cL_costWithShift 2 = .ok (.aload_n 0, 1) := by decide +kernel
theorem dL_costWithShift_3 : decode cL_costWithShift 3 = .ok (.iload_n 1, 1) := by decide +kernel
theorem dL_costWithShift_4 : decode cL_costWithShift 4 = .ok (.invokevirtual 115, 3) := by decide +kernel
theorem dL_costWithShift_7 : decode cL_costWithShift 7 = .ok (.lastore, 1) := by decide +kernel
theorem dL_costWithShift_8 : decode cL_costWithShift 8 = .ok (.goto 6, 3) := by decide +kernel
theorem dL_costWithShift_11 : decode cL_costWithShift 11 = .ok (.astore_n 3, 1) := by decide +kernel
theorem dL_costWithShift_12 : decode cL_costWithShift 12 = .ok (.iconst 1, 1) := by decide +kernel
theorem dL_costWithShift_13 : decode cL_costWithShift 13 = .ok (.ireturn, 1) := by decide +kernel
theorem dL_costWithShift_14 : decode cL_costWithShift 14 = .ok (.iconst 0, 1) := by decide +kernel
theorem dL_costWithShift_15 : decode cL_costWithShift 15 = .ok (.ireturn, 1) := by decide +kernel
theorem dL_costIfAssigned_0 : decode cL_costIfAssigned 0 = .ok (.aload_n 3, 1) := by decide +kernel
theorem dL_costIfAssigned_1 : decode cL_costIfAssigned 1 = .ok (.iconst 0, 1) := by decide +kernel
theorem dL_costIfAssigned_2 : decode cL_costIfAssigned 2 = .ok (.aload_n 0, 1) := by decide +kernel
theorem dL_costIfAssigned_3 : decode cL_costIfAssigned 3 = .ok (.iload_n 1, 1) := by decide +kernel
theorem dL_costIfAssigned_4 : decode cL_costIfAssigned 4 = .ok (.iload_n 2, 1) := by decide +kernel
theorem dL_costIfAssigned_5 : decode cL_costIfAssigned 5 = .ok (.invokevirtual 118, 3) := by decide +kernel
theorem dL_costIfAssigned_8 : decode cL_costIfAssigned 8 = .ok (.lastore, 1) := by decide +kernel
theorem dL_costIfAssigned_9 : decode cL_costIfAssigned 9 = .ok (.goto 7, 3) := by decide +kernel
theorem dL_costIfAssigned_12 : decode cL_costIfAssigned 12 = .ok (.astore 4, 2) := by decide +kernel
theorem dL_costIfAssigned_14 : decode cL_costIfAssigned 14 = .ok (.iconst 1, 1) := by decide +kernel
theorem dL_costIfAssigned_15 : decode cL_costIfAssigned 15 = .ok (.ireturn, 1) := by decide +kernel
theorem dL_costIfAssigned_16 : decode cL_costIfAssigned 16 = .ok (.iconst 0, 1) := by decide +kernel
theorem dL_costIfAssigned_17 : decode cL_costIfAssigned 17 = .ok (.ireturn, 1) := by decide +kernel
theorem dL_bestRunway_0 : decode cL_bestRunway 0 = .ok (.aload_n 2, 1) := by decide +kernel
theorem dL_bestRunway_1 : decode cL_bestRunway 1 = .ok (.iconst 0, 1) := by decide +kernel
theorem dL_bestRunway_2 : decode cL_bestRunway 2 = .ok (.aload_n 0, 1) := by decide +kernel
theorem dL_bestRunway_3 : decode cL_bestRunway 3 = .ok (.iload_n 1, 1) := by decide +kernel
theorem dL_bestRunway_4 : decode cL_bestRunway 4 = .ok (.invokevirtual 122, 3) := by decide +kernel
theorem dL_bestRunway_7 : decode cL_bestRunway 7 = .ok (.i2l, 1) := by decide +kernel
theorem dL_bestRunway_8 : decode cL_bestRunway 8 = .ok (.lastore, 1) := by decide +kernel
theorem dL_bestRunway_9 : decode cL_bestRunway 9 = .ok (.goto 6, 3) := by decide +kernel
theorem dL_bestRunway_12 : decode cL_bestRunway 12 = .ok (.astore_n 3, 1) := by decide +kernel
theorem dL_bestRunway_13 : decode cL_bestRunway 13 = .ok (.iconst 1, 1) := by decide +kernel
theorem dL_bestRunway_14 : decode cL_bestRunway 14 = .ok (.ireturn, 1) := by decide +kernel
theorem dL_bestRunway_15 : decode cL_bestRunway 15 = .ok (.iconst 0, 1) := by decide +kernel
theorem dL_bestRunway_16 : decode cL_bestRunway 16 = .ok (.ireturn, 1) := by decide +kernel
theorem dL_aroundCost_0 : decode cL_aroundCost 0 = .ok (.aload_n 2, 1) := by decide +kernel
theorem dL_aroundCost_1 : decode cL_aroundCost 1 = .ok (.iconst 0, 1) := by decide +kernel
theorem dL_aroundCost_2 : decode cL_aroundCost 2 = .ok (.aload_n 0, 1) := by decide +kernel
theorem dL_aroundCost_3 : decode cL_aroundCost 3 = .ok (.iload_n 1, 1) := by decide +kernel
theorem dL_aroundCost_4 : decode cL_aroundCost 4 = .ok (.invokevirtual 125, 3) := by decide +kernel
theorem dL_aroundCost_7 : decode cL_aroundCost 7 = .ok (.lastore, 1) := by decide +kernel
theorem dL_aroundCost_8 : decode cL_aroundCost 8 = .ok (.goto 6, 3) := by decide +kernel
theorem dL_aroundCost_11 : decode cL_aroundCost 11 = .ok (.astore_n 3, 1) := by decide +kernel
theorem dL_aroundCost_12 : decode cL_aroundCost 12 = .ok (.iconst 1, 1) := by decide +kernel
theorem dL_aroundCost_13 : decode cL_aroundCost 13 = .ok (.ireturn, 1) := by decide +kernel
theorem dL_aroundCost_14 : decode cL_aroundCost 14 = .ok (.iconst 0, 1) := by decide +kernel
theorem dL_aroundCost_15 : decode cL_aroundCost 15 = .ok (.ireturn, 1) := by decide +kernel
theorem dL_latestStart_0 : decode cL_latestStart 0 = .ok (.aload_n 2, 1) := by decide +kernel
theorem dL_latestStart_1 : decode cL_latestStart 1 = .ok (.iconst 0, 1) := by decide +kernel
theorem dL_latestStart_2 : decode cL_latestStart 2 = .ok (.aload_n 0, 1) := by decide +kernel
theorem dL_latestStart_3 : decode cL_latestStart 3 = .ok (.iload_n 1, 1) := by decide +kernel
theorem dL_latestStart_4 : decode cL_latestStart 4 = .ok (.invokevirtual 128, 3) := by decide +kernel
theorem dL_latestStart_7 : decode cL_latestStart 7 = .ok (.i2l, 1) := by decide +kernel
theorem dL_latestStart_8 : decode cL_latestStart 8 = .ok (.lastore, 1) := by decide +kernel
theorem dL_latestStart_9 : decode cL_latestStart 9 = .ok (.goto 6, 3) := by decide +kernel
theorem dL_latestStart_12 : decode cL_latestStart 12 = .ok (.astore_n 3, 1) := by decide +kernel
theorem dL_latestStart_13 : decode cL_latestStart 13 = .ok (.iconst 1, 1) := by decide +kernel
theorem dL_latestStart_14 : decode cL_latestStart 14 = .ok (.ireturn, 1) := by decide +kernel
theorem dL_latestStart_15 : decode cL_latestStart 15 = .ok (.iconst 0, 1) := by decide +kernel
theorem dL_latestStart_16 : decode cL_latestStart 16 = .ok (.ireturn, 1) := by decide +kernel
theorem dL_timeInserted_0 : decode cL_timeInserted 0 = .ok (.aload 4, 2) := by decide +kernel
theorem dL_timeInserted_2 : decode cL_timeInserted 2 = .ok (.iconst 0, 1) := by decide +kernel
theorem dL_timeInserted_3 : decode cL_timeInserted 3 = .ok (.aload_n 0, 1) := by decide +kernel
theorem dL_timeInserted_4 : decode cL_timeInserted 4 = .ok (.iload_n 1, 1) := by decide +kernel
theorem dL_timeInserted_5 : decode cL_timeInserted 5 = .ok (.iload_n 2, 1) := by decide +kernel
theorem dL_timeInserted_6 : decode cL_timeInserted 6 = .ok (.iload_n 3, 1) := by decide +kernel
theorem dL_timeInserted_7 : decode cL_timeInserted 7 = .ok (.invokevirtual 131, 3) := by decide +kernel
theorem dL_timeInserted_10 : decode cL_timeInserted 10 = .ok (.i2l, 1) := by decide +kernel
theorem dL_timeInserted_11 : decode cL_timeInserted 11 = .ok (.lastore, 1) := by decide +kernel
theorem dL_timeInserted_12 : decode cL_timeInserted 12 = .ok (.goto 11, 3) := by decide +kernel
theorem dL_timeInserted_15 : decode cL_timeInserted 15 = .ok (.astore 5, 2) := by decide +kernel
theorem dL_timeInserted_17 : decode cL_timeInserted 17 = .ok (.iconst 1, 1) := by decide +kernel
theorem dL_timeInserted_18 : decode cL_timeInserted 18 = .ok (.ireturn, 1) := by decide +kernel
theorem dL_timeInserted_19 : decode cL_timeInserted 19 = .ok (.astore 5, 2) := by decide +kernel
theorem dL_timeInserted_21 : decode cL_timeInserted 21 = .ok (.iconst 2, 1) := by decide +kernel
theorem dL_timeInserted_22 : decode cL_timeInserted 22 = .ok (.ireturn, 1) := by decide +kernel
theorem dL_timeInserted_23 : decode cL_timeInserted 23 = .ok (.iconst 0, 1) := by decide +kernel
theorem dL_timeInserted_24 : decode cL_timeInserted 24 = .ok (.ireturn, 1) := by decide +kernel
theorem dL_simulate_0 : decode cL_simulate 0 = .ok (.aload 5, 2) := by decide +kernel
theorem dL_simulate_2 : decode cL_simulate 2 = .ok (.iconst 0, 1) := by decide +kernel
theorem dL_simulate_3 : decode cL_simulate 3 = .ok (.aload_n 0, 1) := by decide +kernel
theorem dL_simulate_4 : decode cL_simulate 4 = .ok (.iload_n 1, 1) := by decide +kernel
theorem dL_simulate_5 : decode cL_simulate 5 = .ok (.iload_n 2, 1) := by decide +kernel
theorem dL_simulate_6 : decode cL_simulate 6 = .ok (.iload_n 3, 1) := by decide +kernel
theorem dL_simulate_7 : decode cL_simulate 7 = .ok (.iload 4, 2) := by decide +kernel
theorem dL_simulate_9 : decode cL_simulate 9 = .ok (.invokevirtual 134, 3) := by decide +kernel
theorem dL_simulate_12 : decode cL_simulate 12 = .ok (.i2l, 1) := by decide +kernel
theorem dL_simulate_13 : decode cL_simulate 13 = .ok (.lastore, 1) := by decide +kernel
theorem dL_simulate_14 : decode cL_simulate 14 = .ok (.goto 7, 3) := by decide +kernel
theorem dL_simulate_17 : decode cL_simulate 17 = .ok (.astore 6, 2) := by decide +kernel
theorem dL_simulate_19 : decode cL_simulate 19 = .ok (.iconst 1, 1) := by decide +kernel
theorem dL_simulate_20 : decode cL_simulate 20 = .ok (.ireturn, 1) := by decide +kernel
theorem dL_simulate_21 : decode cL_simulate 21 = .ok (.iconst 0, 1) := by decide +kernel
theorem dL_simulate_22 : decode cL_simulate 22 = .ok (.ireturn, 1) := by decide +kernel
theorem dL_saveSnapshot_0 : decode cL_saveSnapshot 0 = .ok (.aload_n 2, 1) := by decide +kernel
theorem dL_saveSnapshot_1 : decode cL_saveSnapshot 1 = .ok (.iconst 0, 1) := by decide +kernel
theorem dL_saveSnapshot_2 : decode cL_saveSnapshot 2 = .ok (.aload_n 0, 1) := by decide +kernel
theorem dL_saveSnapshot_3 : decode cL_saveSnapshot 3 = .ok (.iload_n 1, 1) := by decide +kernel
theorem dL_saveSnapshot_4 : decode cL_saveSnapshot 4 = .ok (.invokevirtual 138, 3) := by decide +kernel
theorem dL_saveSnapshot_7 : decode cL_saveSnapshot 7 = .ok (.i2l, 1) := by decide +kernel
theorem dL_saveSnapshot_8 : decode cL_saveSnapshot 8 = .ok (.lastore, 1) := by decide +kernel
theorem dL_saveSnapshot_9 : decode cL_saveSnapshot 9 = .ok (.goto 6, 3) := by decide +kernel
theorem dL_saveSnapshot_12 : decode cL_saveSnapshot 12 = .ok (.astore_n 3, 1) := by decide +kernel
theorem dL_saveSnapshot_13 : decode cL_saveSnapshot 13 = .ok (.iconst 1, 1) := by decide +kernel
theorem dL_saveSnapshot_14 : decode cL_saveSnapshot 14 = .ok (.ireturn, 1) := by decide +kernel
theorem dL_saveSnapshot_15 : decode cL_saveSnapshot 15 = .ok (.iconst 0, 1) := by decide +kernel
theorem dL_saveSnapshot_16 : decode cL_saveSnapshot 16 = .ok (.ireturn, 1) := by decide +kernel
theorem dL_restoreSnapshot_0 : decode cL_restoreSnapshot 0 = .ok (.aload_n 2, 1) := by decide +kernel
theorem dL_restoreSnapshot_1 : decode cL_restoreSnapshot 1 = .ok (.iconst 0, 1) := by decide +kernel
theorem dL_restoreSnapshot_2 : decode cL_restoreSnapshot 2 = .ok (.aload_n 0, 1) := by decide +kernel
theorem dL_restoreSnapshot_3 : decode cL_restoreSnapshot 3 = .ok (.iload_n 1, 1) := by decide +kernel
theorem dL_restoreSnapshot_4 : decode cL_restoreSnapshot 4 = .ok (.invokevirtual 141, 3) := by decide +kernel
theorem dL_restoreSnapshot_7 : decode cL_restoreSnapshot 7 = .ok (.i2l, 1) := by decide +kernel
theorem dL_restoreSnapshot_8 : decode cL_restoreSnapshot 8 = .ok (.lastore, 1) := by decide +kernel
theorem dL_restoreSnapshot_9 : decode cL_restoreSnapshot 9 = .ok (.goto 6, 3) := by decide +kernel
theorem dL_restoreSnapshot_12 : decode cL_restoreSnapshot 12 = .ok (.astore_n 3, 1) := by decide +kernel
theorem dL_restoreSnapshot_13 : decode cL_restoreSnapshot 13 = .ok (.iconst 1, 1) := by decide +kernel
theorem dL_restoreSnapshot_14 : decode cL_restoreSnapshot 14 = .ok (.ireturn, 1) := by decide +kernel
theorem dL_restoreSnapshot_15 : decode cL_restoreSnapshot 15 = .ok (.iconst 0, 1) := by decide +kernel
theorem dL_restoreSnapshot_16 : decode cL_restoreSnapshot 16 = .ok (.ireturn, 1) := by decide +kernel
theorem l_plannedAt {l : Launch} {G : GT} {H : AH} {x o p1 p2 : Int} {d mc ms : Nat} {Q9 : AV → AH → Prop} (hG : GX l G) (hx : hk H x = 6) (hQ : ∀ r H', Q9 r H' → ((∃ y, r = vI y) ∨ r = vT 1) ∧ H'.2.1 o = (13, 1)) (hc : CL l G mX7_plannedAt d mc ms [vR x, vI p1, vI p2] H Q9) : CLH l G mL_plannedAt (d + 1) mc ms [vR x, vI p1, vI p2, vR o] H (lQ o 1 vI (fun y => y) Q9) := by
  refine CLH.of (by decide) (Nat.le_of_ble_eq_true rfl) ?_
  show AW l G mL_plannedAt (d + 1) mc ms _ 0 [vR x, vI p1, vI p2, vR o, vU] [] 0 0 H
  refine a_aload_n dL_plannedAt_0 rfl rfl ?_
  refine a_iconst dL_plannedAt_1 ⟨by decide, by decide⟩ ?_
  refine a_aload_n dL_plannedAt_2 rfl rfl ?_
  refine a_iload_n dL_plannedAt_3 rfl rfl ?_
  refine a_iload_n dL_plannedAt_4 rfl rfl ?_
  refine a_callVH hG dL_plannedAt_5 cw_L_plannedAt_5 (as := [vI p1, vI p2]) rfl rfl hx (Nat.le_refl _) (Nat.le_of_ble_eq_true rfl) (by omega) (by omega) (CL.mono hc ?_)
  intro r9 H9 q9
  obtain ⟨hr, ho⟩ := hQ r9 H9 q9
  rcases hr with ⟨y, rfl⟩ | rfl
  · show AW l G mL_plannedAt (d + 1) mc ms _ 8 [vR x, vI p1, vI p2, vR o, vU] [vI y, vI 0, vR o] (0 + mc) (0 + ms) H9
    refine a_i2l dL_plannedAt_8 ?_
    refine b_last dL_plannedAt_9 (congrArg Prod.fst ho) (congrArg Prod.snd ho) (by omega) ?_
    refine a_goto dL_plannedAt_10 (tgt := 17) rfl ?_
    refine a_iconst dL_plannedAt_17 ⟨by decide, by decide⟩ ?_
    exact a_iret dL_plannedAt_18 rfl (by omega) (by omega) (Or.inl ⟨y, H9, q9, rfl, rfl⟩)
  · refine (show ∃ hp : Nat, CT G mL_plannedAt 5 1 hp ∧ ∀ q : Nat, AW l G mL_plannedAt (d + 1) mc ms (lQ o 1 vI (fun y => y) Q9) hp [vR x, vI p1, vI p2, vR o, vU] [vX q] (0 + mc) (0 + ms) H9 from ⟨13, ⟨[], ⟨0, 10, 13, 19⟩, [], rfl, rfl, rfl, by decide, wlk_19, fun y hy => absurd hy List.not_mem_nil⟩, fun q => ?_⟩)
    refine a_xstore dL_plannedAt_13 (by decide) rfl ?_
    refine a_iconst dL_plannedAt_15 ⟨by decide, by decide⟩ ?_
    exact a_iret dL_plannedAt_16 rfl (by omega) (by omega) (Or.inr ⟨q9, rfl⟩)
theorem l_delay {l : Launch} {G : GT} {H : AH} {x o p1 : Int} {d mc ms : Nat} {Q9 : AV → AH → Prop} (hG : GX l G) (hx : hk H x = 6) (hQ : ∀ r H', Q9 r H' → ((∃ y, r = vI y) ∨ r = vT 1) ∧ H'.2.1 o = (13, 1)) (hc : CL l G mX7_delay d mc ms [vR x, vI p1] H Q9) : CLH l G mL_delay (d + 1) mc ms [vR x, vI p1, vR o] H (lQ o 1 vI (fun y => y) Q9) := by
  refine CLH.of (by decide) (Nat.le_of_ble_eq_true rfl) ?_
  show AW l G mL_delay (d + 1) mc ms _ 0 [vR x, vI p1, vR o, vU] [] 0 0 H
  refine a_aload_n dL_delay_0 rfl rfl ?_
  refine a_iconst dL_delay_1 ⟨by decide, by decide⟩ ?_
  refine a_aload_n dL_delay_2 rfl rfl ?_
  refine a_iload_n dL_delay_3 rfl rfl ?_
  refine a_callVH hG dL_delay_4 cw_L_delay_4 (as := [vI p1]) rfl rfl hx (Nat.le_refl _) (Nat.le_of_ble_eq_true rfl) (by omega) (by omega) (CL.mono hc ?_)
  intro r9 H9 q9
  obtain ⟨hr, ho⟩ := hQ r9 H9 q9
  rcases hr with ⟨y, rfl⟩ | rfl
  · show AW l G mL_delay (d + 1) mc ms _ 7 [vR x, vI p1, vR o, vU] [vI y, vI 0, vR o] (0 + mc) (0 + ms) H9
    refine a_i2l dL_delay_7 ?_
    refine b_last dL_delay_8 (congrArg Prod.fst ho) (congrArg Prod.snd ho) (by omega) ?_
    refine a_goto dL_delay_9 (tgt := 15) rfl ?_
    refine a_iconst dL_delay_15 ⟨by decide, by decide⟩ ?_
    exact a_iret dL_delay_16 rfl (by omega) (by omega) (Or.inl ⟨y, H9, q9, rfl, rfl⟩)
  · refine (show ∃ hp : Nat, CT G mL_delay 4 1 hp ∧ ∀ q : Nat, AW l G mL_delay (d + 1) mc ms (lQ o 1 vI (fun y => y) Q9) hp [vR x, vI p1, vR o, vU] [vX q] (0 + mc) (0 + ms) H9 from ⟨12, ⟨[], ⟨0, 9, 12, 19⟩, [], rfl, rfl, rfl, by decide, wlk_19, fun y hy => absurd hy List.not_mem_nil⟩, fun q => ?_⟩)
    refine a_xstore_n dL_delay_12 rfl (by decide) rfl ?_
    refine a_iconst dL_delay_13 ⟨by decide, by decide⟩ ?_
    exact a_iret dL_delay_14 rfl (by omega) (by omega) (Or.inr ⟨q9, rfl⟩)
theorem l_isLate {l : Launch} {G : GT} {H : AH} {x o p1 : Int} {d mc ms : Nat} {Q9 : AV → AH → Prop} (hG : GX l G) (hx : hk H x = 6) (hQ : ∀ r H', Q9 r H' → ((∃ y, r = vI y ∧ (y = 0 ∨ y = 1)) ∨ r = vT 1) ∧ H'.2.1 o = (13, 1)) (hc : CL l G mX7_isLate d mc ms [vR x, vI p1] H Q9) : CLH l G mL_isLate (d + 1) mc ms [vR x, vI p1, vR o] H (lQ o 1 vI (fun y => y) Q9) := by
  refine CLH.of (by decide) (Nat.le_of_ble_eq_true rfl) ?_
  show AW l G mL_isLate (d + 1) mc ms _ 0 [vR x, vI p1, vR o, vU] [] 0 0 H
  refine a_aload_n dL_isLate_0 rfl rfl ?_
  refine a_iconst dL_isLate_1 ⟨by decide, by decide⟩ ?_
  refine a_aload_n dL_isLate_2 rfl rfl ?_
  refine a_iload_n dL_isLate_3 rfl rfl ?_
  refine a_callVH hG dL_isLate_4 cw_L_isLate_4 (as := [vI p1]) rfl rfl hx (Nat.le_refl _) (Nat.le_of_ble_eq_true rfl) (by omega) (by omega) (CL.mono hc ?_)
  intro r9 H9 q9
  obtain ⟨hr, ho⟩ := hQ r9 H9 q9
  rcases hr with ⟨y, rfl, hy⟩ | rfl
  · show AW l G mL_isLate (d + 1) mc ms _ 7 [vR x, vI p1, vR o, vU] [vI y, vI 0, vR o] (0 + mc) (0 + ms) H9
    refine a_if_eq dL_isLate_7 (tgt := 14) rfl (fun c9 => ?_) (fun c9 => ?_)
    · subst c9
      refine a_lconst dL_isLate_14 ?_
      show AW l G mL_isLate (d + 1) mc ms _ 15 [vR x, vI p1, vR o, vU] [vJ 0, vI 0, vR o] (0 + mc) (0 + ms) H9
      refine b_last dL_isLate_15 (congrArg Prod.fst ho) (congrArg Prod.snd ho) (by omega) ?_
      refine a_goto dL_isLate_16 (tgt := 22) rfl ?_
      refine a_iconst dL_isLate_22 ⟨by decide, by decide⟩ ?_
      exact a_iret dL_isLate_23 rfl (by omega) (by omega) (Or.inl ⟨0, H9, q9, rfl, rfl⟩)
    · have hy1 : y = 1 := by omega
      subst hy1
      refine a_lconst dL_isLate_10 ?_
      show AW l G mL_isLate (d + 1) mc ms _ 11 [vR x, vI p1, vR o, vU] [vJ 1, vI 0, vR o] (0 + mc) (0 + ms) H9
      refine a_goto dL_isLate_11 (tgt := 15) rfl ?_
      refine b_last dL_isLate_15 (congrArg Prod.fst ho) (congrArg Prod.snd ho) (by omega) ?_
      refine a_goto dL_isLate_16 (tgt := 22) rfl ?_
      refine a_iconst dL_isLate_22 ⟨by decide, by decide⟩ ?_
      exact a_iret dL_isLate_23 rfl (by omega) (by omega) (Or.inl ⟨1, H9, q9, rfl, rfl⟩)
  · refine (show ∃ hp : Nat, CT G mL_isLate 4 1 hp ∧ ∀ q : Nat, AW l G mL_isLate (d + 1) mc ms (lQ o 1 vI (fun y => y) Q9) hp [vR x, vI p1, vR o, vU] [vX q] (0 + mc) (0 + ms) H9 from ⟨19, ⟨[], ⟨0, 16, 19, 19⟩, [], rfl, rfl, rfl, by decide, wlk_19, fun y hy => absurd hy List.not_mem_nil⟩, fun q => ?_⟩)
    refine a_xstore_n dL_isLate_19 rfl (by decide) rfl ?_
    refine a_iconst dL_isLate_20 ⟨by decide, by decide⟩ ?_
    exact a_iret dL_isLate_21 rfl (by omega) (by omega) (Or.inr ⟨q9, rfl⟩)
theorem l_costOf {l : Launch} {G : GT} {H : AH} {x o p1 : Int} {d mc ms : Nat} {Q9 : AV → AH → Prop} (hG : GX l G) (hx : hk H x = 6) (hQ : ∀ r H', Q9 r H' → ((∃ y, r = vF y ∧ fnn y) ∨ r = vT 1) ∧ H'.2.1 o = (14, 1)) (hc : CL l G mX7_costOf d mc ms [vR x, vI p1] H Q9) : CLH l G mL_costOf (d + 1) mc ms [vR x, vI p1, vR o] H (lQ o 1 vF af2d Q9) := by
  refine CLH.of (by decide) (Nat.le_of_ble_eq_true rfl) ?_
  show AW l G mL_costOf (d + 1) mc ms _ 0 [vR x, vI p1, vR o, vU] [] 0 0 H
  refine a_aload_n dL_costOf_0 rfl rfl ?_
  refine a_iconst dL_costOf_1 ⟨by decide, by decide⟩ ?_
  refine a_aload_n dL_costOf_2 rfl rfl ?_
  refine a_iload_n dL_costOf_3 rfl rfl ?_
  refine a_callVH hG dL_costOf_4 cw_L_costOf_4 (as := [vI p1]) rfl rfl hx (Nat.le_refl _) (Nat.le_of_ble_eq_true rfl) (by omega) (by omega) (CL.mono hc ?_)
  intro r9 H9 q9
  obtain ⟨hr, ho⟩ := hQ r9 H9 q9
  rcases hr with ⟨y, rfl, hy⟩ | rfl
  · show AW l G mL_costOf (d + 1) mc ms _ 7 [vR x, vI p1, vR o, vU] [vF y, vI 0, vR o] (0 + mc) (0 + ms) H9
    refine a_f2d dL_costOf_7 (fnn_ok hy) ?_
    refine b_dast dL_costOf_8 (congrArg Prod.fst ho) (congrArg Prod.snd ho) (by omega) ?_
    refine a_goto dL_costOf_9 (tgt := 15) rfl ?_
    refine a_iconst dL_costOf_15 ⟨by decide, by decide⟩ ?_
    exact a_iret dL_costOf_16 rfl (by omega) (by omega) (Or.inl ⟨y, H9, q9, rfl, rfl⟩)
  · refine (show ∃ hp : Nat, CT G mL_costOf 4 1 hp ∧ ∀ q : Nat, AW l G mL_costOf (d + 1) mc ms (lQ o 1 vF af2d Q9) hp [vR x, vI p1, vR o, vU] [vX q] (0 + mc) (0 + ms) H9 from ⟨12, ⟨[], ⟨0, 9, 12, 19⟩, [], rfl, rfl, rfl, by decide, wlk_19, fun y hy => absurd hy List.not_mem_nil⟩, fun q => ?_⟩)
    refine a_xstore_n dL_costOf_12 rfl (by decide) rfl ?_
    refine a_iconst dL_costOf_13 ⟨by decide, by decide⟩ ?_
    exact a_iret dL_costOf_14 rfl (by omega) (by omega) (Or.inr ⟨q9, rfl⟩)
theorem l_planCost {l : Launch} {G : GT} {H : AH} {x o p1 : Int} {d mc ms : Nat} {Q9 : AV → AH → Prop} (hG : GX l G) (hx : hk H x = 6) (hQ : ∀ r H', Q9 r H' → ((∃ y, r = vJ y) ∨ r = vT 1) ∧ H'.2.1 o = (13, 1)) (hc : CL l G mX7_planCost d mc ms [vR x, vI p1] H Q9) : CLH l G mL_planCost (d + 1) mc ms [vR x, vI p1, vR o] H (lQ o 1 vJ (fun y => y) Q9) := by
  refine CLH.of (by decide) (Nat.le_of_ble_eq_true rfl) ?_
  show AW l G mL_planCost (d + 1) mc ms _ 0 [vR x, vI p1, vR o, vU] [] 0 0 H
  refine a_aload_n dL_planCost_0 rfl rfl ?_
  refine a_iconst dL_planCost_1 ⟨by decide, by decide⟩ ?_
  refine a_aload_n dL_planCost_2 rfl rfl ?_
  refine a_iload_n dL_planCost_3 rfl rfl ?_
  refine a_callVH hG dL_planCost_4 cw_L_planCost_4 (as := [vI p1]) rfl rfl hx (Nat.le_refl _) (Nat.le_of_ble_eq_true rfl) (by omega) (by omega) (CL.mono hc ?_)
  intro r9 H9 q9
  obtain ⟨hr, ho⟩ := hQ r9 H9 q9
  rcases hr with ⟨y, rfl⟩ | rfl
  · show AW l G mL_planCost (d + 1) mc ms _ 7 [vR x, vI p1, vR o, vU] [vJ y, vI 0, vR o] (0 + mc) (0 + ms) H9
    refine b_last dL_planCost_7 (congrArg Prod.fst ho) (congrArg Prod.snd ho) (by omega) ?_
    refine a_goto dL_planCost_8 (tgt := 14) rfl ?_
    refine a_iconst dL_planCost_14 ⟨by decide, by decide⟩ ?_
    exact a_iret dL_planCost_15 rfl (by omega) (by omega) (Or.inl ⟨y, H9, q9, rfl, rfl⟩)
  · refine (show ∃ hp : Nat, CT G mL_planCost 4 1 hp ∧ ∀ q : Nat, AW l G mL_planCost (d + 1) mc ms (lQ o 1 vJ (fun y => y) Q9) hp [vR x, vI p1, vR o, vU] [vX q] (0 + mc) (0 + ms) H9 from ⟨11, ⟨[], ⟨0, 8, 11, 19⟩, [], rfl, rfl, rfl, by decide, wlk_19, fun y hy => absurd hy List.not_mem_nil⟩, fun q => ?_⟩)
    refine a_xstore_n dL_planCost_11 rfl (by decide) rfl ?_
    refine a_iconst dL_planCost_12 ⟨by decide, by decide⟩ ?_
    exact a_iret dL_planCost_13 rfl (by omega) (by omega) (Or.inr ⟨q9, rfl⟩)
theorem l_firstComeCost {l : Launch} {G : GT} {H : AH} {x o p1 : Int} {d mc ms : Nat} {Q9 : AV → AH → Prop} (hG : GX l G) (hx : hk H x = 6) (hQ : ∀ r H', Q9 r H' → ((∃ y, r = vJ y) ∨ r = vT 1) ∧ H'.2.1 o = (13, 1)) (hc : CL l G mX7_firstComeCost d mc ms [vR x, vI p1] H Q9) : CLH l G mL_firstComeCost (d + 1) mc ms [vR x, vI p1, vR o] H (lQ o 1 vJ (fun y => y) Q9) := by
  refine CLH.of (by decide) (Nat.le_of_ble_eq_true rfl) ?_
  show AW l G mL_firstComeCost (d + 1) mc ms _ 0 [vR x, vI p1, vR o, vU] [] 0 0 H
  refine a_aload_n dL_firstComeCost_0 rfl rfl ?_
  refine a_iconst dL_firstComeCost_1 ⟨by decide, by decide⟩ ?_
  refine a_aload_n dL_firstComeCost_2 rfl rfl ?_
  refine a_iload_n dL_firstComeCost_3 rfl rfl ?_
  refine a_callVH hG dL_firstComeCost_4 cw_L_firstComeCost_4 (as := [vI p1]) rfl rfl hx (Nat.le_refl _) (Nat.le_of_ble_eq_true rfl) (by omega) (by omega) (CL.mono hc ?_)
  intro r9 H9 q9
  obtain ⟨hr, ho⟩ := hQ r9 H9 q9
  rcases hr with ⟨y, rfl⟩ | rfl
  · show AW l G mL_firstComeCost (d + 1) mc ms _ 7 [vR x, vI p1, vR o, vU] [vJ y, vI 0, vR o] (0 + mc) (0 + ms) H9
    refine b_last dL_firstComeCost_7 (congrArg Prod.fst ho) (congrArg Prod.snd ho) (by omega) ?_
    refine a_goto dL_firstComeCost_8 (tgt := 14) rfl ?_
    refine a_iconst dL_firstComeCost_14 ⟨by decide, by decide⟩ ?_
    exact a_iret dL_firstComeCost_15 rfl (by omega) (by omega) (Or.inl ⟨y, H9, q9, rfl, rfl⟩)
  · refine (show ∃ hp : Nat, CT G mL_firstComeCost 4 1 hp ∧ ∀ q : Nat, AW l G mL_firstComeCost (d + 1) mc ms (lQ o 1 vJ (fun y => y) Q9) hp [vR x, vI p1, vR o, vU] [vX q] (0 + mc) (0 + ms) H9 from ⟨11, ⟨[], ⟨0, 8, 11, 19⟩, [], rfl, rfl, rfl, by decide, wlk_19, fun y hy => absurd hy List.not_mem_nil⟩, fun q => ?_⟩)
    refine a_xstore_n dL_firstComeCost_11 rfl (by decide) rfl ?_
    refine a_iconst dL_firstComeCost_12 ⟨by decide, by decide⟩ ?_
    exact a_iret dL_firstComeCost_13 rfl (by omega) (by omega) (Or.inr ⟨q9, rfl⟩)
theorem l_allowedSequences {l : Launch} {G : GT} {H : AH} {x o p1 : Int} {d mc ms : Nat} {Q9 : AV → AH → Prop} (hG : GX l G) (hx : hk H x = 6) (hQ : ∀ r H', Q9 r H' → ((∃ y, r = vI y) ∨ r = vT 1) ∧ H'.2.1 o = (13, 1)) (hc : CL l G mX7_allowedSequences d mc ms [vR x, vI p1] H Q9) : CLH l G mL_allowedSequences (d + 1) mc ms [vR x, vI p1, vR o] H (lQ o 1 vI (fun y => y) Q9) := by
  refine CLH.of (by decide) (Nat.le_of_ble_eq_true rfl) ?_
  show AW l G mL_allowedSequences (d + 1) mc ms _ 0 [vR x, vI p1, vR o, vU] [] 0 0 H
  refine a_aload_n dL_allowedSequences_0 rfl rfl ?_
  refine a_iconst dL_allowedSequences_1 ⟨by decide, by decide⟩ ?_
  refine a_aload_n dL_allowedSequences_2 rfl rfl ?_
  refine a_iload_n dL_allowedSequences_3 rfl rfl ?_
  refine a_callVH hG dL_allowedSequences_4 cw_L_allowedSequences_4 (as := [vI p1]) rfl rfl hx (Nat.le_refl _) (Nat.le_of_ble_eq_true rfl) (by omega) (by omega) (CL.mono hc ?_)
  intro r9 H9 q9
  obtain ⟨hr, ho⟩ := hQ r9 H9 q9
  rcases hr with ⟨y, rfl⟩ | rfl
  · show AW l G mL_allowedSequences (d + 1) mc ms _ 7 [vR x, vI p1, vR o, vU] [vI y, vI 0, vR o] (0 + mc) (0 + ms) H9
    refine a_i2l dL_allowedSequences_7 ?_
    refine b_last dL_allowedSequences_8 (congrArg Prod.fst ho) (congrArg Prod.snd ho) (by omega) ?_
    refine a_goto dL_allowedSequences_9 (tgt := 15) rfl ?_
    refine a_iconst dL_allowedSequences_15 ⟨by decide, by decide⟩ ?_
    exact a_iret dL_allowedSequences_16 rfl (by omega) (by omega) (Or.inl ⟨y, H9, q9, rfl, rfl⟩)
  · refine (show ∃ hp : Nat, CT G mL_allowedSequences 4 1 hp ∧ ∀ q : Nat, AW l G mL_allowedSequences (d + 1) mc ms (lQ o 1 vI (fun y => y) Q9) hp [vR x, vI p1, vR o, vU] [vX q] (0 + mc) (0 + ms) H9 from ⟨12, ⟨[], ⟨0, 9, 12, 19⟩, [], rfl, rfl, rfl, by decide, wlk_19, fun y hy => absurd hy List.not_mem_nil⟩, fun q => ?_⟩)
    refine a_xstore_n dL_allowedSequences_12 rfl (by decide) rfl ?_
    refine a_iconst dL_allowedSequences_13 ⟨by decide, by decide⟩ ?_
    exact a_iret dL_allowedSequences_14 rfl (by omega) (by omega) (Or.inr ⟨q9, rfl⟩)
theorem l_equalSequences {l : Launch} {G : GT} {H : AH} {x o p1 : Int} {d mc ms : Nat} {Q9 : AV → AH → Prop} (hG : GX l G) (hx : hk H x = 6) (hQ : ∀ r H', Q9 r H' → ((∃ y, r = vI y) ∨ r = vT 1) ∧ H'.2.1 o = (13, 1)) (hc : CL l G mX7_equalSequences d mc ms [vR x, vI p1] H Q9) : CLH l G mL_equalSequences (d + 1) mc ms [vR x, vI p1, vR o] H (lQ o 1 vI (fun y => y) Q9) := by
  refine CLH.of (by decide) (Nat.le_of_ble_eq_true rfl) ?_
  show AW l G mL_equalSequences (d + 1) mc ms _ 0 [vR x, vI p1, vR o, vU] [] 0 0 H
  refine a_aload_n dL_equalSequences_0 rfl rfl ?_
  refine a_iconst dL_equalSequences_1 ⟨by decide, by decide⟩ ?_
  refine a_aload_n dL_equalSequences_2 rfl rfl ?_
  refine a_iload_n dL_equalSequences_3 rfl rfl ?_
  refine a_callVH hG dL_equalSequences_4 cw_L_equalSequences_4 (as := [vI p1]) rfl rfl hx (Nat.le_refl _) (Nat.le_of_ble_eq_true rfl) (by omega) (by omega) (CL.mono hc ?_)
  intro r9 H9 q9
  obtain ⟨hr, ho⟩ := hQ r9 H9 q9
  rcases hr with ⟨y, rfl⟩ | rfl
  · show AW l G mL_equalSequences (d + 1) mc ms _ 7 [vR x, vI p1, vR o, vU] [vI y, vI 0, vR o] (0 + mc) (0 + ms) H9
    refine a_i2l dL_equalSequences_7 ?_
    refine b_last dL_equalSequences_8 (congrArg Prod.fst ho) (congrArg Prod.snd ho) (by omega) ?_
    refine a_goto dL_equalSequences_9 (tgt := 15) rfl ?_
    refine a_iconst dL_equalSequences_15 ⟨by decide, by decide⟩ ?_
    exact a_iret dL_equalSequences_16 rfl (by omega) (by omega) (Or.inl ⟨y, H9, q9, rfl, rfl⟩)
  · refine (show ∃ hp : Nat, CT G mL_equalSequences 4 1 hp ∧ ∀ q : Nat, AW l G mL_equalSequences (d + 1) mc ms (lQ o 1 vI (fun y => y) Q9) hp [vR x, vI p1, vR o, vU] [vX q] (0 + mc) (0 + ms) H9 from ⟨12, ⟨[], ⟨0, 9, 12, 19⟩, [], rfl, rfl, rfl, by decide, wlk_19, fun y hy => absurd hy List.not_mem_nil⟩, fun q => ?_⟩)
    refine a_xstore_n dL_equalSequences_12 rfl (by decide) rfl ?_
    refine a_iconst dL_equalSequences_13 ⟨by decide, by decide⟩ ?_
    exact a_iret dL_equalSequences_14 rfl (by omega) (by omega) (Or.inr ⟨q9, rfl⟩)
theorem l_slack {l : Launch} {G : GT} {H : AH} {x o p1 : Int} {d mc ms : Nat} {Q9 : AV → AH → Prop} (hG : GX l G) (hx : hk H x = 6) (hQ : ∀ r H', Q9 r H' → ((∃ y, r = vI y) ∨ r = vT 1) ∧ H'.2.1 o = (13, 1)) (hc : CL l G mX7_slack d mc ms [vR x, vI p1] H Q9) : CLH l G mL_slack (d + 1) mc ms [vR x, vI p1, vR o] H (lQ o 1 vI (fun y => y) Q9) := by
  refine CLH.of (by decide) (Nat.le_of_ble_eq_true rfl) ?_
  show AW l G mL_slack (d + 1) mc ms _ 0 [vR x, vI p1, vR o, vU] [] 0 0 H
  refine a_aload_n dL_slack_0 rfl rfl ?_
  refine a_iconst dL_slack_1 ⟨by decide, by decide⟩ ?_
  refine a_aload_n dL_slack_2 rfl rfl ?_
  refine a_iload_n dL_slack_3 rfl rfl ?_
  refine a_callVH hG dL_slack_4 cw_L_slack_4 (as := [vI p1]) rfl rfl hx (Nat.le_refl _) (Nat.le_of_ble_eq_true rfl) (by omega) (by omega) (CL.mono hc ?_)
  intro r9 H9 q9
  obtain ⟨hr, ho⟩ := hQ r9 H9 q9
  rcases hr with ⟨y, rfl⟩ | rfl
  · show AW l G mL_slack (d + 1) mc ms _ 7 [vR x, vI p1, vR o, vU] [vI y, vI 0, vR o] (0 + mc) (0 + ms) H9
    refine a_i2l dL_slack_7 ?_
    refine b_last dL_slack_8 (congrArg Prod.fst ho) (congrArg Prod.snd ho) (by omega) ?_
    refine a_goto dL_slack_9 (tgt := 15) rfl ?_
    refine a_iconst dL_slack_15 ⟨by decide, by decide⟩ ?_
    exact a_iret dL_slack_16 rfl (by omega) (by omega) (Or.inl ⟨y, H9, q9, rfl, rfl⟩)
  · refine (show ∃ hp : Nat, CT G mL_slack 4 1 hp ∧ ∀ q : Nat, AW l G mL_slack (d + 1) mc ms (lQ o 1 vI (fun y => y) Q9) hp [vR x, vI p1, vR o, vU] [vX q] (0 + mc) (0 + ms) H9 from ⟨12, ⟨[], ⟨0, 9, 12, 19⟩, [], rfl, rfl, rfl, by decide, wlk_19, fun y hy => absurd hy List.not_mem_nil⟩, fun q => ?_⟩)
    refine a_xstore_n dL_slack_12 rfl (by decide) rfl ?_
    refine a_iconst dL_slack_13 ⟨by decide, by decide⟩ ?_
    exact a_iret dL_slack_14 rfl (by omega) (by omega) (Or.inr ⟨q9, rfl⟩)
theorem l_binding {l : Launch} {G : GT} {H : AH} {x o p1 : Int} {d mc ms : Nat} {Q9 : AV → AH → Prop} (hG : GX l G) (hx : hk H x = 6) (hQ : ∀ r H', Q9 r H' → ((∃ y, r = vI y) ∨ r = vT 1) ∧ H'.2.1 o = (13, 1)) (hc : CL l G mX7_binding d mc ms [vR x, vI p1] H Q9) : CLH l G mL_binding (d + 1) mc ms [vR x, vI p1, vR o] H (lQ o 1 vI (fun y => y) Q9) := by
  refine CLH.of (by decide) (Nat.le_of_ble_eq_true rfl) ?_
  show AW l G mL_binding (d + 1) mc ms _ 0 [vR x, vI p1, vR o, vU] [] 0 0 H
  refine a_aload_n dL_binding_0 rfl rfl ?_
  refine a_iconst dL_binding_1 ⟨by decide, by decide⟩ ?_
  refine a_aload_n dL_binding_2 rfl rfl ?_
  refine a_iload_n dL_binding_3 rfl rfl ?_
  refine a_callVH hG dL_binding_4 cw_L_binding_4 (as := [vI p1]) rfl rfl hx (Nat.le_refl _) (Nat.le_of_ble_eq_true rfl) (by omega) (by omega) (CL.mono hc ?_)
  intro r9 H9 q9
  obtain ⟨hr, ho⟩ := hQ r9 H9 q9
  rcases hr with ⟨y, rfl⟩ | rfl
  · show AW l G mL_binding (d + 1) mc ms _ 7 [vR x, vI p1, vR o, vU] [vI y, vI 0, vR o] (0 + mc) (0 + ms) H9
    refine a_i2l dL_binding_7 ?_
    refine b_last dL_binding_8 (congrArg Prod.fst ho) (congrArg Prod.snd ho) (by omega) ?_
    refine a_goto dL_binding_9 (tgt := 15) rfl ?_
    refine a_iconst dL_binding_15 ⟨by decide, by decide⟩ ?_
    exact a_iret dL_binding_16 rfl (by omega) (by omega) (Or.inl ⟨y, H9, q9, rfl, rfl⟩)
  · refine (show ∃ hp : Nat, CT G mL_binding 4 1 hp ∧ ∀ q : Nat, AW l G mL_binding (d + 1) mc ms (lQ o 1 vI (fun y => y) Q9) hp [vR x, vI p1, vR o, vU] [vX q] (0 + mc) (0 + ms) H9 from ⟨12, ⟨[], ⟨0, 9, 12, 19⟩, [], rfl, rfl, rfl, by decide, wlk_19, fun y hy => absurd hy List.not_mem_nil⟩, fun q => ?_⟩)
    refine a_xstore_n dL_binding_12 rfl (by decide) rfl ?_
    refine a_iconst dL_binding_13 ⟨by decide, by decide⟩ ?_
    exact a_iret dL_binding_14 rfl (by omega) (by omega) (Or.inr ⟨q9, rfl⟩)
theorem l_lastTime {l : Launch} {G : GT} {H : AH} {x o p1 : Int} {d mc ms : Nat} {Q9 : AV → AH → Prop} (hG : GX l G) (hx : hk H x = 6) (hQ : ∀ r H', Q9 r H' → ((∃ y, r = vI y) ∨ r = vT 1) ∧ H'.2.1 o = (13, 1)) (hc : CL l G mX7_lastTime d mc ms [vR x, vI p1] H Q9) : CLH l G mL_lastTime (d + 1) mc ms [vR x, vI p1, vR o] H (lQ o 1 vI (fun y => y) Q9) := by
  refine CLH.of (by decide) (Nat.le_of_ble_eq_true rfl) ?_
  show AW l G mL_lastTime (d + 1) mc ms _ 0 [vR x, vI p1, vR o, vU] [] 0 0 H
  refine a_aload_n dL_lastTime_0 rfl rfl ?_
  refine a_iconst dL_lastTime_1 ⟨by decide, by decide⟩ ?_
  refine a_aload_n dL_lastTime_2 rfl rfl ?_
  refine a_iload_n dL_lastTime_3 rfl rfl ?_
  refine a_callVH hG dL_lastTime_4 cw_L_lastTime_4 (as := [vI p1]) rfl rfl hx (Nat.le_refl _) (Nat.le_of_ble_eq_true rfl) (by omega) (by omega) (CL.mono hc ?_)
  intro r9 H9 q9
  obtain ⟨hr, ho⟩ := hQ r9 H9 q9
  rcases hr with ⟨y, rfl⟩ | rfl
  · show AW l G mL_lastTime (d + 1) mc ms _ 7 [vR x, vI p1, vR o, vU] [vI y, vI 0, vR o] (0 + mc) (0 + ms) H9
    refine a_i2l dL_lastTime_7 ?_
    refine b_last dL_lastTime_8 (congrArg Prod.fst ho) (congrArg Prod.snd ho) (by omega) ?_
    refine a_goto dL_lastTime_9 (tgt := 15) rfl ?_
    refine a_iconst dL_lastTime_15 ⟨by decide, by decide⟩ ?_
    exact a_iret dL_lastTime_16 rfl (by omega) (by omega) (Or.inl ⟨y, H9, q9, rfl, rfl⟩)
  · refine (show ∃ hp : Nat, CT G mL_lastTime 4 1 hp ∧ ∀ q : Nat, AW l G mL_lastTime (d + 1) mc ms (lQ o 1 vI (fun y => y) Q9) hp [vR x, vI p1, vR o, vU] [vX q] (0 + mc) (0 + ms) H9 from ⟨12, ⟨[], ⟨0, 9, 12, 19⟩, [], rfl, rfl, rfl, by decide, wlk_19, fun y hy => absurd hy List.not_mem_nil⟩, fun q => ?_⟩)
    refine a_xstore_n dL_lastTime_12 rfl (by decide) rfl ?_
    refine a_iconst dL_lastTime_13 ⟨by decide, by decide⟩ ?_
    exact a_iret dL_lastTime_14 rfl (by omega) (by omega) (Or.inr ⟨q9, rfl⟩)
theorem l_aroundCount {l : Launch} {G : GT} {H : AH} {x o p1 : Int} {d mc ms : Nat} {Q9 : AV → AH → Prop} (hG : GX l G) (hx : hk H x = 6) (hQ : ∀ r H', Q9 r H' → ((∃ y, r = vI y) ∨ r = vT 1) ∧ H'.2.1 o = (13, 1)) (hc : CL l G mX7_aroundCount d mc ms [vR x, vI p1] H Q9) : CLH l G mL_aroundCount (d + 1) mc ms [vR x, vI p1, vR o] H (lQ o 1 vI (fun y => y) Q9) := by
  refine CLH.of (by decide) (Nat.le_of_ble_eq_true rfl) ?_
  show AW l G mL_aroundCount (d + 1) mc ms _ 0 [vR x, vI p1, vR o, vU] [] 0 0 H
  refine a_aload_n dL_aroundCount_0 rfl rfl ?_
  refine a_iconst dL_aroundCount_1 ⟨by decide, by decide⟩ ?_
  refine a_aload_n dL_aroundCount_2 rfl rfl ?_
  refine a_iload_n dL_aroundCount_3 rfl rfl ?_
  refine a_callVH hG dL_aroundCount_4 cw_L_aroundCount_4 (as := [vI p1]) rfl rfl hx (Nat.le_refl _) (Nat.le_of_ble_eq_true rfl) (by omega) (by omega) (CL.mono hc ?_)
  intro r9 H9 q9
  obtain ⟨hr, ho⟩ := hQ r9 H9 q9
  rcases hr with ⟨y, rfl⟩ | rfl
  · show AW l G mL_aroundCount (d + 1) mc ms _ 7 [vR x, vI p1, vR o, vU] [vI y, vI 0, vR o] (0 + mc) (0 + ms) H9
    refine a_i2l dL_aroundCount_7 ?_
    refine b_last dL_aroundCount_8 (congrArg Prod.fst ho) (congrArg Prod.snd ho) (by omega) ?_
    refine a_goto dL_aroundCount_9 (tgt := 15) rfl ?_
    refine a_iconst dL_aroundCount_15 ⟨by decide, by decide⟩ ?_
    exact a_iret dL_aroundCount_16 rfl (by omega) (by omega) (Or.inl ⟨y, H9, q9, rfl, rfl⟩)
  · refine (show ∃ hp : Nat, CT G mL_aroundCount 4 1 hp ∧ ∀ q : Nat, AW l G mL_aroundCount (d + 1) mc ms (lQ o 1 vI (fun y => y) Q9) hp [vR x, vI p1, vR o, vU] [vX q] (0 + mc) (0 + ms) H9 from ⟨12, ⟨[], ⟨0, 9, 12, 19⟩, [], rfl, rfl, rfl, by decide, wlk_19, fun y hy => absurd hy List.not_mem_nil⟩, fun q => ?_⟩)
    refine a_xstore_n dL_aroundCount_12 rfl (by decide) rfl ?_
    refine a_iconst dL_aroundCount_13 ⟨by decide, by decide⟩ ?_
    exact a_iret dL_aroundCount_14 rfl (by omega) (by omega) (Or.inr ⟨q9, rfl⟩)
theorem l_costWithShift {l : Launch} {G : GT} {H : AH} {x o p1 : Int} {d mc ms : Nat} {Q9 : AV → AH → Prop} (hG : GX l G) (hx : hk H x = 6) (hQ : ∀ r H', Q9 r H' → ((∃ y, r = vJ y) ∨ r = vT 0) ∧ H'.2.1 o = (13, 1)) (hc : CL l G mX7_costWithShift d mc ms [vR x, vI p1] H Q9) : CLH l G mL_costWithShift (d + 1) mc ms [vR x, vI p1, vR o] H (lQ o 0 vJ (fun y => y) Q9) := by
  refine CLH.of (by decide) (Nat.le_of_ble_eq_true rfl) ?_
  show AW l G mL_costWithShift (d + 1) mc ms _ 0 [vR x, vI p1, vR o, vU] [] 0 0 H
  refine a_aload_n dL_costWithShift_0 rfl rfl ?_
  refine a_iconst dL_costWithShift_1 ⟨by decide, by decide⟩ ?_
  refine a_aload_n dL_costWithShift_2 rfl rfl ?_
  refine a_iload_n dL_costWithShift_3 rfl rfl ?_
  refine a_callVH hG dL_costWithShift_4 cw_L_costWithShift_4 (as := [vI p1]) rfl rfl hx (Nat.le_refl _) (Nat.le_of_ble_eq_true rfl) (by omega) (by omega) (CL.mono hc ?_)
  intro r9 H9 q9
  obtain ⟨hr, ho⟩ := hQ r9 H9 q9
  rcases hr with ⟨y, rfl⟩ | rfl
  · show AW l G mL_costWithShift (d + 1) mc ms _ 7 [vR x, vI p1, vR o, vU] [vJ y, vI 0, vR o] (0 + mc) (0 + ms) H9
    refine b_last dL_costWithShift_7 (congrArg Prod.fst ho) (congrArg Prod.snd ho) (by omega) ?_
    refine a_goto dL_costWithShift_8 (tgt := 14) rfl ?_
    refine a_iconst dL_costWithShift_14 ⟨by decide, by decide⟩ ?_
    exact a_iret dL_costWithShift_15 rfl (by omega) (by omega) (Or.inl ⟨y, H9, q9, rfl, rfl⟩)
  · refine (show ∃ hp : Nat, CT G mL_costWithShift 4 0 hp ∧ ∀ q : Nat, AW l G mL_costWithShift (d + 1) mc ms (lQ o 0 vJ (fun y => y) Q9) hp [vR x, vI p1, vR o, vU] [vX q] (0 + mc) (0 + ms) H9 from ⟨11, ⟨[], ⟨0, 8, 11, 13⟩, [], rfl, rfl, rfl, by decide, wlk_13, fun y hy => absurd hy List.not_mem_nil⟩, fun q => ?_⟩)
    refine a_xstore_n dL_costWithShift_11 rfl (by decide) rfl ?_
    refine a_iconst dL_costWithShift_12 ⟨by decide, by decide⟩ ?_
    exact a_iret dL_costWithShift_13 rfl (by omega) (by omega) (Or.inr ⟨q9, rfl⟩)
theorem l_costIfAssigned {l : Launch} {G : GT} {H : AH} {x o p1 p2 : Int} {d mc ms : Nat} {Q9 : AV → AH → Prop} (hG : GX l G) (hx : hk H x = 6) (hQ : ∀ r H', Q9 r H' → ((∃ y, r = vJ y) ∨ r = vT 1) ∧ H'.2.1 o = (13, 1)) (hc : CL l G mX7_costIfAssigned d mc ms [vR x, vI p1, vI p2] H Q9) : CLH l G mL_costIfAssigned (d + 1) mc ms [vR x, vI p1, vI p2, vR o] H (lQ o 1 vJ (fun y => y) Q9) := by
  refine CLH.of (by decide) (Nat.le_of_ble_eq_true rfl) ?_
  show AW l G mL_costIfAssigned (d + 1) mc ms _ 0 [vR x, vI p1, vI p2, vR o, vU] [] 0 0 H
  refine a_aload_n dL_costIfAssigned_0 rfl rfl ?_
  refine a_iconst dL_costIfAssigned_1 ⟨by decide, by decide⟩ ?_
  refine a_aload_n dL_costIfAssigned_2 rfl rfl ?_
  refine a_iload_n dL_costIfAssigned_3 rfl rfl ?_
  refine a_iload_n dL_costIfAssigned_4 rfl rfl ?_
  refine a_callVH hG dL_costIfAssigned_5 cw_L_costIfAssigned_5 (as := [vI p1, vI p2]) rfl rfl hx (Nat.le_refl _) (Nat.le_of_ble_eq_true rfl) (by omega) (by omega) (CL.mono hc ?_)
  intro r9 H9 q9
  obtain ⟨hr, ho⟩ := hQ r9 H9 q9
  rcases hr with ⟨y, rfl⟩ | rfl
  · show AW l G mL_costIfAssigned (d + 1) mc ms _ 8 [vR x, vI p1, vI p2, vR o, vU] [vJ y, vI 0, vR o] (0 + mc) (0 + ms) H9
    refine b_last dL_costIfAssigned_8 (congrArg Prod.fst ho) (congrArg Prod.snd ho) (by omega) ?_
    refine a_goto dL_costIfAssigned_9 (tgt := 16) rfl ?_
    refine a_iconst dL_costIfAssigned_16 ⟨by decide, by decide⟩ ?_
    exact a_iret dL_costIfAssigned_17 rfl (by omega) (by omega) (Or.inl ⟨y, H9, q9, rfl, rfl⟩)
  · refine (show ∃ hp : Nat, CT G mL_costIfAssigned 5 1 hp ∧ ∀ q : Nat, AW l G mL_costIfAssigned (d + 1) mc ms (lQ o 1 vJ (fun y => y) Q9) hp [vR x, vI p1, vI p2, vR o, vU] [vX q] (0 + mc) (0 + ms) H9 from ⟨12, ⟨[], ⟨0, 9, 12, 19⟩, [], rfl, rfl, rfl, by decide, wlk_19, fun y hy => absurd hy List.not_mem_nil⟩, fun q => ?_⟩)
    refine a_xstore dL_costIfAssigned_12 (by decide) rfl ?_
    refine a_iconst dL_costIfAssigned_14 ⟨by decide, by decide⟩ ?_
    exact a_iret dL_costIfAssigned_15 rfl (by omega) (by omega) (Or.inr ⟨q9, rfl⟩)
theorem l_bestRunway {l : Launch} {G : GT} {H : AH} {x o p1 : Int} {d mc ms : Nat} {Q9 : AV → AH → Prop} (hG : GX l G) (hx : hk H x = 6) (hQ : ∀ r H', Q9 r H' → ((∃ y, r = vI y) ∨ r = vT 1) ∧ H'.2.1 o = (13, 1)) (hc : CL l G mX7_bestRunway d mc ms [vR x, vI p1] H Q9) : CLH l G mL_bestRunway (d + 1) mc ms [vR x, vI p1, vR o] H (lQ o 1 vI (fun y => y) Q9) := by
  refine CLH.of (by decide) (Nat.le_of_ble_eq_true rfl) ?_
  show AW l G mL_bestRunway (d + 1) mc ms _ 0 [vR x, vI p1, vR o, vU] [] 0 0 H
  refine a_aload_n dL_bestRunway_0 rfl rfl ?_
  refine a_iconst dL_bestRunway_1 ⟨by decide, by decide⟩ ?_
  refine a_aload_n dL_bestRunway_2 rfl rfl ?_
  refine a_iload_n dL_bestRunway_3 rfl rfl ?_
  refine a_callVH hG dL_bestRunway_4 cw_L_bestRunway_4 (as := [vI p1]) rfl rfl hx (Nat.le_refl _) (Nat.le_of_ble_eq_true rfl) (by omega) (by omega) (CL.mono hc ?_)
  intro r9 H9 q9
  obtain ⟨hr, ho⟩ := hQ r9 H9 q9
  rcases hr with ⟨y, rfl⟩ | rfl
  · show AW l G mL_bestRunway (d + 1) mc ms _ 7 [vR x, vI p1, vR o, vU] [vI y, vI 0, vR o] (0 + mc) (0 + ms) H9
    refine a_i2l dL_bestRunway_7 ?_
    refine b_last dL_bestRunway_8 (congrArg Prod.fst ho) (congrArg Prod.snd ho) (by omega) ?_
    refine a_goto dL_bestRunway_9 (tgt := 15) rfl ?_
    refine a_iconst dL_bestRunway_15 ⟨by decide, by decide⟩ ?_
    exact a_iret dL_bestRunway_16 rfl (by omega) (by omega) (Or.inl ⟨y, H9, q9, rfl, rfl⟩)
  · refine (show ∃ hp : Nat, CT G mL_bestRunway 4 1 hp ∧ ∀ q : Nat, AW l G mL_bestRunway (d + 1) mc ms (lQ o 1 vI (fun y => y) Q9) hp [vR x, vI p1, vR o, vU] [vX q] (0 + mc) (0 + ms) H9 from ⟨12, ⟨[], ⟨0, 9, 12, 19⟩, [], rfl, rfl, rfl, by decide, wlk_19, fun y hy => absurd hy List.not_mem_nil⟩, fun q => ?_⟩)
    refine a_xstore_n dL_bestRunway_12 rfl (by decide) rfl ?_
    refine a_iconst dL_bestRunway_13 ⟨by decide, by decide⟩ ?_
    exact a_iret dL_bestRunway_14 rfl (by omega) (by omega) (Or.inr ⟨q9, rfl⟩)
theorem l_aroundCost {l : Launch} {G : GT} {H : AH} {x o p1 : Int} {d mc ms : Nat} {Q9 : AV → AH → Prop} (hG : GX l G) (hx : hk H x = 6) (hQ : ∀ r H', Q9 r H' → ((∃ y, r = vJ y) ∨ r = vT 1) ∧ H'.2.1 o = (13, 1)) (hc : CL l G mX7_aroundCost d mc ms [vR x, vI p1] H Q9) : CLH l G mL_aroundCost (d + 1) mc ms [vR x, vI p1, vR o] H (lQ o 1 vJ (fun y => y) Q9) := by
  refine CLH.of (by decide) (Nat.le_of_ble_eq_true rfl) ?_
  show AW l G mL_aroundCost (d + 1) mc ms _ 0 [vR x, vI p1, vR o, vU] [] 0 0 H
  refine a_aload_n dL_aroundCost_0 rfl rfl ?_
  refine a_iconst dL_aroundCost_1 ⟨by decide, by decide⟩ ?_
  refine a_aload_n dL_aroundCost_2 rfl rfl ?_
  refine a_iload_n dL_aroundCost_3 rfl rfl ?_
  refine a_callVH hG dL_aroundCost_4 cw_L_aroundCost_4 (as := [vI p1]) rfl rfl hx (Nat.le_refl _) (Nat.le_of_ble_eq_true rfl) (by omega) (by omega) (CL.mono hc ?_)
  intro r9 H9 q9
  obtain ⟨hr, ho⟩ := hQ r9 H9 q9
  rcases hr with ⟨y, rfl⟩ | rfl
  · show AW l G mL_aroundCost (d + 1) mc ms _ 7 [vR x, vI p1, vR o, vU] [vJ y, vI 0, vR o] (0 + mc) (0 + ms) H9
    refine b_last dL_aroundCost_7 (congrArg Prod.fst ho) (congrArg Prod.snd ho) (by omega) ?_
    refine a_goto dL_aroundCost_8 (tgt := 14) rfl ?_
    refine a_iconst dL_aroundCost_14 ⟨by decide, by decide⟩ ?_
    exact a_iret dL_aroundCost_15 rfl (by omega) (by omega) (Or.inl ⟨y, H9, q9, rfl, rfl⟩)
  · refine (show ∃ hp : Nat, CT G mL_aroundCost 4 1 hp ∧ ∀ q : Nat, AW l G mL_aroundCost (d + 1) mc ms (lQ o 1 vJ (fun y => y) Q9) hp [vR x, vI p1, vR o, vU] [vX q] (0 + mc) (0 + ms) H9 from ⟨11, ⟨[], ⟨0, 8, 11, 19⟩, [], rfl, rfl, rfl, by decide, wlk_19, fun y hy => absurd hy List.not_mem_nil⟩, fun q => ?_⟩)
    refine a_xstore_n dL_aroundCost_11 rfl (by decide) rfl ?_
    refine a_iconst dL_aroundCost_12 ⟨by decide, by decide⟩ ?_
    exact a_iret dL_aroundCost_13 rfl (by omega) (by omega) (Or.inr ⟨q9, rfl⟩)
theorem l_latestStart {l : Launch} {G : GT} {H : AH} {x o p1 : Int} {d mc ms : Nat} {Q9 : AV → AH → Prop} (hG : GX l G) (hx : hk H x = 6) (hQ : ∀ r H', Q9 r H' → ((∃ y, r = vI y) ∨ r = vT 1) ∧ H'.2.1 o = (13, 1)) (hc : CL l G mX7_latestStart d mc ms [vR x, vI p1] H Q9) : CLH l G mL_latestStart (d + 1) mc ms [vR x, vI p1, vR o] H (lQ o 1 vI (fun y => y) Q9) := by
  refine CLH.of (by decide) (Nat.le_of_ble_eq_true rfl) ?_
  show AW l G mL_latestStart (d + 1) mc ms _ 0 [vR x, vI p1, vR o, vU] [] 0 0 H
  refine a_aload_n dL_latestStart_0 rfl rfl ?_
  refine a_iconst dL_latestStart_1 ⟨by decide, by decide⟩ ?_
  refine a_aload_n dL_latestStart_2 rfl rfl ?_
  refine a_iload_n dL_latestStart_3 rfl rfl ?_
  refine a_callVH hG dL_latestStart_4 cw_L_latestStart_4 (as := [vI p1]) rfl rfl hx (Nat.le_refl _) (Nat.le_of_ble_eq_true rfl) (by omega) (by omega) (CL.mono hc ?_)
  intro r9 H9 q9
  obtain ⟨hr, ho⟩ := hQ r9 H9 q9
  rcases hr with ⟨y, rfl⟩ | rfl
  · show AW l G mL_latestStart (d + 1) mc ms _ 7 [vR x, vI p1, vR o, vU] [vI y, vI 0, vR o] (0 + mc) (0 + ms) H9
    refine a_i2l dL_latestStart_7 ?_
    refine b_last dL_latestStart_8 (congrArg Prod.fst ho) (congrArg Prod.snd ho) (by omega) ?_
    refine a_goto dL_latestStart_9 (tgt := 15) rfl ?_
    refine a_iconst dL_latestStart_15 ⟨by decide, by decide⟩ ?_
    exact a_iret dL_latestStart_16 rfl (by omega) (by omega) (Or.inl ⟨y, H9, q9, rfl, rfl⟩)
  · refine (show ∃ hp : Nat, CT G mL_latestStart 4 1 hp ∧ ∀ q : Nat, AW l G mL_latestStart (d + 1) mc ms (lQ o 1 vI (fun y => y) Q9) hp [vR x, vI p1, vR o, vU] [vX q] (0 + mc) (0 + ms) H9 from ⟨12, ⟨[], ⟨0, 9, 12, 19⟩, [], rfl, rfl, rfl, by decide, wlk_19, fun y hy => absurd hy List.not_mem_nil⟩, fun q => ?_⟩)
    refine a_xstore_n dL_latestStart_12 rfl (by decide) rfl ?_
    refine a_iconst dL_latestStart_13 ⟨by decide, by decide⟩ ?_
    exact a_iret dL_latestStart_14 rfl (by omega) (by omega) (Or.inr ⟨q9, rfl⟩)
theorem l_timeInserted {l : Launch} {G : GT} {H : AH} {x o p1 p2 p3 : Int} {d mc ms : Nat} {Q9 : AV → AH → Prop} (hG : GX l G) (hNc : gNc G) (hx : hk H x = 6) (hQ : ∀ r H', Q9 r H' → ((∃ y, r = vI y) ∨ r = vT 1 ∨ r = vT 0) ∧ H'.2.1 o = (13, 1)) (hc : CL l G mX7_timeInserted d mc ms [vR x, vI p1, vI p2, vI p3] H Q9) : CLH l G mL_timeInserted (d + 1) mc ms [vR x, vI p1, vI p2, vI p3, vR o] H (lQ2 o Q9) := by
  refine CLH.of (by decide) (Nat.le_of_ble_eq_true rfl) ?_
  show AW l G mL_timeInserted (d + 1) mc ms _ 0 [vR x, vI p1, vI p2, vI p3, vR o, vU] [] 0 0 H
  refine a_aload dL_timeInserted_0 rfl ?_
  refine a_iconst dL_timeInserted_2 ⟨by decide, by decide⟩ ?_
  refine a_aload_n dL_timeInserted_3 rfl rfl ?_
  refine a_iload_n dL_timeInserted_4 rfl rfl ?_
  refine a_iload_n dL_timeInserted_5 rfl rfl ?_
  refine a_iload_n dL_timeInserted_6 rfl rfl ?_
  refine a_callVH hG dL_timeInserted_7 cw_L_timeInserted_7 (as := [vI p1, vI p2, vI p3]) rfl rfl hx (Nat.le_refl _) (Nat.le_of_ble_eq_true rfl) (by omega) (by omega) (CL.mono hc ?_)
  intro r9 H9 q9
  obtain ⟨hr, ho⟩ := hQ r9 H9 q9
  rcases hr with ⟨y, rfl⟩ | rfl | rfl
  · show AW l G mL_timeInserted (d + 1) mc ms _ 10 [vR x, vI p1, vI p2, vI p3, vR o, vU] [vI y, vI 0, vR o] (0 + mc) (0 + ms) H9
    refine a_i2l dL_timeInserted_10 ?_
    refine b_last dL_timeInserted_11 (congrArg Prod.fst ho) (congrArg Prod.snd ho) (by omega) ?_
    refine a_goto dL_timeInserted_12 (tgt := 23) rfl ?_
    refine a_iconst dL_timeInserted_23 ⟨by decide, by decide⟩ ?_
    exact a_iret dL_timeInserted_24 rfl (by omega) (by omega) (Or.inl ⟨y, H9, q9, rfl, rfl⟩)
  · refine (show ∃ hp : Nat, CT G mL_timeInserted 7 1 hp ∧ ∀ q : Nat, AW l G mL_timeInserted (d + 1) mc ms (lQ2 o Q9) hp [vR x, vI p1, vI p2, vI p3, vR o, vU] [vX q] (0 + mc) (0 + ms) H9 from ⟨15, ⟨[], ⟨0, 12, 15, 19⟩, [⟨0, 12, 19, 13⟩], rfl, rfl, rfl, by decide, wlk_19, fun y hy => absurd hy List.not_mem_nil⟩, fun q => ?_⟩)
    refine a_xstore dL_timeInserted_15 (by decide) rfl ?_
    refine a_iconst dL_timeInserted_17 ⟨by decide, by decide⟩ ?_
    exact a_iret dL_timeInserted_18 rfl (by omega) (by omega) (Or.inr (Or.inl ⟨q9, rfl⟩))
  · refine (show ∃ hp : Nat, CT G mL_timeInserted 7 0 hp ∧ ∀ q : Nat, AW l G mL_timeInserted (d + 1) mc ms (lQ2 o Q9) hp [vR x, vI p1, vI p2, vI p3, vR o, vU] [vX q] (0 + mc) (0 + ms) H9 from ⟨19, ⟨[⟨0, 12, 15, 19⟩], ⟨0, 12, 19, 13⟩, [], rfl, rfl, rfl, by decide, wlk_13, fun y hy => by rcases List.mem_singleton.mp hy with rfl; exact Or.inr ⟨by decide, _, wlk_19, hNc⟩⟩, fun q => ?_⟩)
    refine a_xstore dL_timeInserted_19 (by decide) rfl ?_
    refine a_iconst dL_timeInserted_21 ⟨by decide, by decide⟩ ?_
    exact a_iret dL_timeInserted_22 rfl (by omega) (by omega) (Or.inr (Or.inr ⟨q9, rfl⟩))
theorem l_simulate {l : Launch} {G : GT} {H : AH} {x o p1 p2 p3 p4 : Int} {d mc ms : Nat} {Q9 : AV → AH → Prop} (hG : GX l G) (hx : hk H x = 6) (hQ : ∀ r H', Q9 r H' → ((∃ y, r = vI y) ∨ r = vT 0) ∧ H'.2.1 o = (13, 1)) (hc : CL l G mX7_simulate d mc ms [vR x, vI p1, vI p2, vI p3, vI p4] H Q9) : CLH l G mL_simulate (d + 1) mc ms [vR x, vI p1, vI p2, vI p3, vI p4, vR o] H (lQ o 0 vI (fun y => y) Q9) := by
  refine CLH.of (by decide) (Nat.le_of_ble_eq_true rfl) ?_
  show AW l G mL_simulate (d + 1) mc ms _ 0 [vR x, vI p1, vI p2, vI p3, vI p4, vR o, vU] [] 0 0 H
  refine a_aload dL_simulate_0 rfl ?_
  refine a_iconst dL_simulate_2 ⟨by decide, by decide⟩ ?_
  refine a_aload_n dL_simulate_3 rfl rfl ?_
  refine a_iload_n dL_simulate_4 rfl rfl ?_
  refine a_iload_n dL_simulate_5 rfl rfl ?_
  refine a_iload_n dL_simulate_6 rfl rfl ?_
  refine a_iload dL_simulate_7 rfl ?_
  refine a_callVH hG dL_simulate_9 cw_L_simulate_9 (as := [vI p1, vI p2, vI p3, vI p4]) rfl rfl hx (Nat.le_refl _) (Nat.le_of_ble_eq_true rfl) (by omega) (by omega) (CL.mono hc ?_)
  intro r9 H9 q9
  obtain ⟨hr, ho⟩ := hQ r9 H9 q9
  rcases hr with ⟨y, rfl⟩ | rfl
  · show AW l G mL_simulate (d + 1) mc ms _ 12 [vR x, vI p1, vI p2, vI p3, vI p4, vR o, vU] [vI y, vI 0, vR o] (0 + mc) (0 + ms) H9
    refine a_i2l dL_simulate_12 ?_
    refine b_last dL_simulate_13 (congrArg Prod.fst ho) (congrArg Prod.snd ho) (by omega) ?_
    refine a_goto dL_simulate_14 (tgt := 21) rfl ?_
    refine a_iconst dL_simulate_21 ⟨by decide, by decide⟩ ?_
    exact a_iret dL_simulate_22 rfl (by omega) (by omega) (Or.inl ⟨y, H9, q9, rfl, rfl⟩)
  · refine (show ∃ hp : Nat, CT G mL_simulate 9 0 hp ∧ ∀ q : Nat, AW l G mL_simulate (d + 1) mc ms (lQ o 0 vI (fun y => y) Q9) hp [vR x, vI p1, vI p2, vI p3, vI p4, vR o, vU] [vX q] (0 + mc) (0 + ms) H9 from ⟨17, ⟨[], ⟨0, 14, 17, 13⟩, [], rfl, rfl, rfl, by decide, wlk_13, fun y hy => absurd hy List.not_mem_nil⟩, fun q => ?_⟩)
    refine a_xstore dL_simulate_17 (by decide) rfl ?_
    refine a_iconst dL_simulate_19 ⟨by decide, by decide⟩ ?_
    exact a_iret dL_simulate_20 rfl (by omega) (by omega) (Or.inr ⟨q9, rfl⟩)
theorem l_saveSnapshot {l : Launch} {G : GT} {H : AH} {x o p1 : Int} {d mc ms : Nat} {Q9 : AV → AH → Prop} (hG : GX l G) (hx : hk H x = 6) (hQ : ∀ r H', Q9 r H' → ((∃ y, r = vI y) ∨ r = vT 0) ∧ H'.2.1 o = (13, 1)) (hc : CL l G mX7_saveSnapshot d mc ms [vR x, vI p1] H Q9) : CLH l G mL_saveSnapshot (d + 1) mc ms [vR x, vI p1, vR o] H (lQ o 0 vI (fun y => y) Q9) := by
  refine CLH.of (by decide) (Nat.le_of_ble_eq_true rfl) ?_
  show AW l G mL_saveSnapshot (d + 1) mc ms _ 0 [vR x, vI p1, vR o, vU] [] 0 0 H
  refine a_aload_n dL_saveSnapshot_0 rfl rfl ?_
  refine a_iconst dL_saveSnapshot_1 ⟨by decide, by decide⟩ ?_
  refine a_aload_n dL_saveSnapshot_2 rfl rfl ?_
  refine a_iload_n dL_saveSnapshot_3 rfl rfl ?_
  refine a_callVH hG dL_saveSnapshot_4 cw_L_saveSnapshot_4 (as := [vI p1]) rfl rfl hx (Nat.le_refl _) (Nat.le_of_ble_eq_true rfl) (by omega) (by omega) (CL.mono hc ?_)
  intro r9 H9 q9
  obtain ⟨hr, ho⟩ := hQ r9 H9 q9
  rcases hr with ⟨y, rfl⟩ | rfl
  · show AW l G mL_saveSnapshot (d + 1) mc ms _ 7 [vR x, vI p1, vR o, vU] [vI y, vI 0, vR o] (0 + mc) (0 + ms) H9
    refine a_i2l dL_saveSnapshot_7 ?_
    refine b_last dL_saveSnapshot_8 (congrArg Prod.fst ho) (congrArg Prod.snd ho) (by omega) ?_
    refine a_goto dL_saveSnapshot_9 (tgt := 15) rfl ?_
    refine a_iconst dL_saveSnapshot_15 ⟨by decide, by decide⟩ ?_
    exact a_iret dL_saveSnapshot_16 rfl (by omega) (by omega) (Or.inl ⟨y, H9, q9, rfl, rfl⟩)
  · refine (show ∃ hp : Nat, CT G mL_saveSnapshot 4 0 hp ∧ ∀ q : Nat, AW l G mL_saveSnapshot (d + 1) mc ms (lQ o 0 vI (fun y => y) Q9) hp [vR x, vI p1, vR o, vU] [vX q] (0 + mc) (0 + ms) H9 from ⟨12, ⟨[], ⟨0, 9, 12, 13⟩, [], rfl, rfl, rfl, by decide, wlk_13, fun y hy => absurd hy List.not_mem_nil⟩, fun q => ?_⟩)
    refine a_xstore_n dL_saveSnapshot_12 rfl (by decide) rfl ?_
    refine a_iconst dL_saveSnapshot_13 ⟨by decide, by decide⟩ ?_
    exact a_iret dL_saveSnapshot_14 rfl (by omega) (by omega) (Or.inr ⟨q9, rfl⟩)
theorem l_restoreSnapshot {l : Launch} {G : GT} {H : AH} {x o p1 : Int} {d mc ms : Nat} {Q9 : AV → AH → Prop} (hG : GX l G) (hx : hk H x = 6) (hQ : ∀ r H', Q9 r H' → ((∃ y, r = vI y) ∨ r = vT 0) ∧ H'.2.1 o = (13, 1)) (hc : CL l G mX7_restoreSnapshot d mc ms [vR x, vI p1] H Q9) : CLH l G mL_restoreSnapshot (d + 1) mc ms [vR x, vI p1, vR o] H (lQ o 0 vI (fun y => y) Q9) := by
  refine CLH.of (by decide) (Nat.le_of_ble_eq_true rfl) ?_
  show AW l G mL_restoreSnapshot (d + 1) mc ms _ 0 [vR x, vI p1, vR o, vU] [] 0 0 H
  refine a_aload_n dL_restoreSnapshot_0 rfl rfl ?_
  refine a_iconst dL_restoreSnapshot_1 ⟨by decide, by decide⟩ ?_
  refine a_aload_n dL_restoreSnapshot_2 rfl rfl ?_
  refine a_iload_n dL_restoreSnapshot_3 rfl rfl ?_
  refine a_callVH hG dL_restoreSnapshot_4 cw_L_restoreSnapshot_4 (as := [vI p1]) rfl rfl hx (Nat.le_refl _) (Nat.le_of_ble_eq_true rfl) (by omega) (by omega) (CL.mono hc ?_)
  intro r9 H9 q9
  obtain ⟨hr, ho⟩ := hQ r9 H9 q9
  rcases hr with ⟨y, rfl⟩ | rfl
  · show AW l G mL_restoreSnapshot (d + 1) mc ms _ 7 [vR x, vI p1, vR o, vU] [vI y, vI 0, vR o] (0 + mc) (0 + ms) H9
    refine a_i2l dL_restoreSnapshot_7 ?_
    refine b_last dL_restoreSnapshot_8 (congrArg Prod.fst ho) (congrArg Prod.snd ho) (by omega) ?_
    refine a_goto dL_restoreSnapshot_9 (tgt := 15) rfl ?_
    refine a_iconst dL_restoreSnapshot_15 ⟨by decide, by decide⟩ ?_
    exact a_iret dL_restoreSnapshot_16 rfl (by omega) (by omega) (Or.inl ⟨y, H9, q9, rfl, rfl⟩)
  · refine (show ∃ hp : Nat, CT G mL_restoreSnapshot 4 0 hp ∧ ∀ q : Nat, AW l G mL_restoreSnapshot (d + 1) mc ms (lQ o 0 vI (fun y => y) Q9) hp [vR x, vI p1, vR o, vU] [vX q] (0 + mc) (0 + ms) H9 from ⟨12, ⟨[], ⟨0, 9, 12, 13⟩, [], rfl, rfl, rfl, by decide, wlk_13, fun y hy => absurd hy List.not_mem_nil⟩, fun q => ?_⟩)
    refine a_xstore_n dL_restoreSnapshot_12 rfl (by decide) rfl ?_
    refine a_iconst dL_restoreSnapshot_13 ⟨by decide, by decide⟩ ?_
    exact a_iret dL_restoreSnapshot_14 rfl (by omega) (by omega) (Or.inr ⟨q9, rfl⟩)
