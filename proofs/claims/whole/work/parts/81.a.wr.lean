/-! the law: its wrappers -/
def gNc (G : GT) : Prop := ∀ (z : Nat) (s : State), G z s → va_Nc "java/lang/IllegalArgumentException" "java/lang/IndexOutOfBoundsException" s
/-- a wrapper that catches two kinds -/
def lQ2 (c : Int) (Q : AV → AH → Prop) : AV → AH → Prop := fun r H' => (∃ (y : Int) (H1 : AH), Q (vI y) H1 ∧ r = vI 0 ∧ H' = hs H1 c 0 y) ∨ (Q (vT 1) H' ∧ r = vI 1) ∨ (Q (vT 0) H' ∧ r = vI 2)
theorem wlk_13 : Cond.classLink "RunwaySequencerLaw" 13 "java/lang/IllegalArgumentException" ∈ lw_good := w_mem 703 (by decide +kernel) (by decide +kernel)
theorem wlk_19 : Cond.classLink "RunwaySequencerLaw" 19 "java/lang/IndexOutOfBoundsException" ∈ lw_good := w_mem 777 (by decide +kernel) (by decide +kernel)
theorem dL_appendByte_0 : decode cL_appendByte 0 = .ok (.aload_n 2, 1) := by decide +kernel
theorem dL_appendByte_1 : decode cL_appendByte 1 = .ok (.iconst 0, 1) := by decide +kernel
theorem dL_appendByte_2 : decode cL_appendByte 2 = .ok (.aload_n 0, 1) := by decide +kernel
theorem dL_appendByte_3 : decode cL_appendByte 3 = .ok (.iload_n 1, 1) := by decide +kernel
theorem dL_appendByte_4 : decode cL_appendByte 4 = .ok (.invokevirtual 7, 3) := by decide +kernel
theorem dL_appendByte_7 : decode cL_appendByte 7 = .ok (.i2l, 1) := by decide +kernel
theorem dL_appendByte_8 : decode cL_appendByte 8 = .ok (.lastore, 1) := by decide +kernel
theorem dL_appendByte_9 : decode cL_appendByte 9 = .ok (.goto 6, 3) := by decide +kernel
theorem dL_appendByte_12 : decode cL_appendByte 12 = .ok (.astore_n 3, 1) := by decide +kernel
theorem dL_appendByte_13 : decode cL_appendByte 13 = .ok (.iconst 1, 1) := by decide +kernel
theorem dL_appendByte_14 : decode cL_appendByte 14 = .ok (.ireturn, 1) := by decide +kernel
theorem dL_appendByte_15 : decode cL_appendByte 15 = .ok (.iconst 0, 1) := by decide +kernel
theorem dL_appendByte_16 : decode cL_appendByte 16 = .ok (.ireturn, 1) := by decide +kernel
theorem dL_nameByte_0 : decode cL_nameByte 0 = .ok (.aload_n 3, 1) := by decide +kernel
theorem dL_nameByte_1 : decode cL_nameByte 1 = .ok (.iconst 0, 1) := by decide +kernel
theorem dL_nameByte_2 : decode cL_nameByte 2 = .ok (.aload_n 0, 1) := by decide +kernel
theorem dL_nameByte_3 : decode cL_nameByte 3 = .ok (.iload_n 1, 1) := by decide +kernel
theorem dL_nameByte_4 : decode cL_nameByte 4 = .ok (.iload_n 2, 1) := by decide +kernel
theorem dL_nameByte_5 : decode cL_nameByte 5 = .ok (.invokevirtual 15, 3) := by decide +kernel
theorem dL_nameByte_8 : decode cL_nameByte 8 = .ok (.i2l, 1) := by decide +kernel
theorem dL_nameByte_9 : decode cL_nameByte 9 = .ok (.lastore, 1) := by decide +kernel
theorem dL_nameByte_10 : decode cL_nameByte 10 = .ok (.goto 7, 3) := by decide +kernel
theorem dL_nameByte_13 : decode cL_nameByte 13 = .ok (.astore 4, 2) := by decide +kernel
theorem dL_nameByte_15 : decode cL_nameByte 15 = .ok (.iconst 1, 1) := by decide +kernel
theorem dL_nameByte_16 : decode cL_nameByte 16 = .ok (.ireturn, 1) := by decide +kernel
theorem dL_nameByte_17 : decode cL_nameByte 17 = .ok (.iconst 0, 1) := by decide +kernel
theorem dL_nameByte_18 : decode cL_nameByte 18 = .ok (.ireturn, 1) := by decide +kernel
theorem dL_isArrival_0 : decode cL_isArrival 0 = .ok (.aload_n 2, 1) := by decide +kernel
theorem dL_isArrival_1 : decode cL_isArrival 1 = .ok (.iconst 0, 1) := by decide +kernel
theorem dL_isArrival_2 : decode cL_isArrival 2 = .ok (.aload_n 0, 1) := by decide +kernel
theorem dL_isArrival_3 : decode cL_isArrival 3 = .ok (.iload_n 1, 1) := by decide +kernel
theorem dL_isArrival_4 : decode cL_isArrival 4 = .ok (.invokevirtual 21, 3) := by decide +kernel
theorem dL_isArrival_7 : decode cL_isArrival 7 = .ok (.ifCond .eq 7, 3) := by decide +kernel
theorem dL_isArrival_10 : decode cL_isArrival 10 = .ok (.lconst 1, 1) := by decide +kernel
theorem dL_isArrival_11 : decode cL_isArrival 11 = .ok (.goto 4, 3) := by decide +kernel
theorem dL_isArrival_14 : decode cL_isArrival 14 = .ok (.lconst 0, 1) := by decide +kernel
theorem dL_isArrival_15 : decode cL_isArrival 15 = .ok (.lastore, 1) := by decide +kernel
theorem dL_isArrival_16 : decode cL_isArrival 16 = .ok (.goto 6, 3) := by decide +kernel
theorem dL_isArrival_19 : decode cL_isArrival 19 = .ok (.astore_n 3, 1) := by decide +kernel
theorem dL_isArrival_20 : decode cL_isArrival 20 = .ok (.iconst 1, 1) := by decide +kernel
theorem dL_isArrival_21 : decode cL_isArrival 21 = .ok (.ireturn, 1) := by decide +kernel
theorem dL_isArrival_22 : decode cL_isArrival 22 = .ok (.iconst 0, 1) := by decide +kernel
theorem dL_isArrival_23 : decode cL_isArrival 23 = .ok (.ireturn, 1) := by decide +kernel
theorem dL_classOf_0 : decode cL_classOf 0 = .ok (.aload_n 2, 1) := by decide +kernel
theorem dL_classOf_1 : decode cL_classOf 1 = .ok (.iconst 0, 1) := by decide +kernel
theorem dL_classOf_2 : decode cL_classOf 2 = .ok (.aload_n 0, 1) := by decide +kernel
theorem dL_classOf_3 : decode cL_classOf 3 = .ok (.iload_n 1, 1) := by decide +kernel
theorem dL_classOf_4 : decode cL_classOf 4 = .ok (.invokevirtual 25, 3) := by decide +kernel
theorem dL_classOf_7 : decode cL_classOf 7 = .ok (.i2l, 1) := by decide +kernel
theorem dL_classOf_8 : decode cL_classOf 8 = .ok (.lastore, 1) := by decide +kernel
theorem dL_classOf_9 : decode cL_classOf 9 = .ok (.goto 6, 3) := by decide +kernel
theorem dL_classOf_12 : decode cL_classOf 12 = .ok (.astore_n 3, 1) := by decide +kernel
theorem dL_classOf_13 : decode cL_classOf 13 = .ok (.iconst 1, 1) := by decide +kernel
theorem dL_classOf_14 : decode cL_classOf 14 = .ok (.ireturn, 1) := by decide +kernel
theorem dL_classOf_15 : decode cL_classOf 15 = .ok (.iconst 0, 1) := by decide +kernel
theorem dL_classOf_16 : decode cL_classOf 16 = .ok (.ireturn, 1) := by decide +kernel
theorem dL_earliest_0 : decode cL_earliest 0 = .ok (.aload_n 2, 1) := by decide +kernel
theorem dL_earliest_1 : decode cL_earliest 1 = .ok (.iconst 0, 1) := by decide +kernel
theorem dL_earliest_2 : decode cL_earliest 2 = .ok (.aload_n 0, 1) := by decide +kernel
theorem dL_earliest_3 : decode cL_earliest 3 = .ok (.iload_n 1, 1) := by decide +kernel
theorem dL_earliest_4 : decode cL_earliest 4 = .ok (.invokevirtual 28, 3) := by decide +kernel
theorem dL_earliest_7 : decode cL_earliest 7 = .ok (.i2l, 1) := by decide +kernel
theorem dL_earliest_8 : decode cL_earliest 8 = .ok (.lastore, 1) := by decide +kernel
theorem dL_earliest_9 : decode cL_earliest 9 = .ok (.goto 6, 3) := by decide +kernel
theorem dL_earliest_12 : decode cL_earliest 12 = .ok (.astore_n 3, 1) := by decide +kernel
theorem dL_earliest_13 : decode cL_earliest 13 = .ok (.iconst 1, 1) := by decide +kernel
theorem dL_earliest_14 : decode cL_earliest 14 = .ok (.ireturn, 1) := by decide +kernel
theorem dL_earliest_15 : decode cL_earliest 15 = .ok (.iconst 0, 1) := by decide +kernel
theorem dL_earliest_16 : decode cL_earliest 16 = .ok (.ireturn, 1) := by decide +kernel
theorem dL_target_0 : decode cL_target 0 = .ok (.aload_n 2, 1) := by decide +kernel
theorem dL_target_1 : decode cL_target 1 = .ok (.iconst 0, 1) := by decide +kernel
theorem dL_target_2 : decode cL_target 2 = .ok (.aload_n 0, 1) := by decide +kernel
theorem dL_target_3 : decode cL_target 3 = .ok (.iload_n 1, 1) := by decide +kernel
theorem dL_target_4 : decode cL_target 4 = .ok (.invokevirtual 31, 3) := by decide +kernel
theorem dL_target_7 : decode cL_target 7 = .ok (.i2l, 1) := by decide +kernel
theorem dL_target_8 : decode cL_target 8 = .ok (.lastore, 1) := by decide +kernel
theorem dL_target_9 : decode cL_target 9 = .ok (.goto 6, 3) := by decide +kernel
theorem dL_target_12 : decode cL_target 12 = .ok (.astore_n 3, 1) := by decide +kernel
theorem dL_target_13 : decode cL_target 13 = .ok (.iconst 1, 1) := by decide +kernel
theorem dL_target_14 : decode cL_target 14 = .ok (.ireturn, 1) := by decide +kernel
theorem dL_target_15 : decode cL_target 15 = .ok (.iconst 0, 1) := by decide +kernel
theorem dL_target_16 : decode cL_target 16 = .ok (.ireturn, 1) := by decide +kernel
theorem dL_latest_0 : decode cL_latest 0 = .ok (.aload_n 2, 1) := by decide +kernel
theorem dL_latest_1 : decode cL_latest 1 = .ok (.iconst 0, 1) := by decide +kernel
theorem dL_latest_2 : decode cL_latest 2 = .ok (.aload_n 0, 1) := by decide +kernel
theorem dL_latest_3 : decode cL_latest 3 = .ok (.iload_n 1, 1) := by decide +kernel
theorem dL_latest_4 : decode cL_latest 4 = .ok (.invokevirtual 34, 3) := by decide +kernel
theorem dL_latest_7 : decode cL_latest 7 = .ok (.i2l, 1) := by decide +kernel
theorem dL_latest_8 : decode cL_latest 8 = .ok (.lastore, 1) := by decide +kernel
theorem dL_latest_9 : decode cL_latest 9 = .ok (.goto 6, 3) := by decide +kernel
theorem dL_latest_12 : decode cL_latest 12 = .ok (.astore_n 3, 1) := by decide +kernel
theorem dL_latest_13 : decode cL_latest 13 = .ok (.iconst 1, 1) := by decide +kernel
theorem dL_latest_14 : decode cL_latest 14 = .ok (.ireturn, 1) := by decide +kernel
theorem dL_latest_15 : decode cL_latest 15 = .ok (.iconst 0, 1) := by decide +kernel
theorem dL_latest_16 : decode cL_latest 16 = .ok (.ireturn, 1) := by decide +kernel
theorem dL_wake_0 : decode cL_wake 0 = .ok (.aload_n 3, 1) := by decide +kernel
theorem dL_wake_1 : decode cL_wake 1 = .ok (.iconst 0, 1) := by decide +kernel
theorem dL_wake_2 : decode cL_wake 2 = .ok (.aload_n 0, 1) := by decide +kernel
theorem dL_wake_3 : decode cL_wake 3 = .ok (.iload_n 1, 1) := by decide +kernel
theorem dL_wake_4 : decode cL_wake 4 = .ok (.iload_n 2, 1) := by decide +kernel
theorem dL_wake_5 : decode cL_wake 5 = .ok (.invokevirtual 37, 3) := by decide +kernel
theorem dL_wake_8 : decode cL_wake 8 = .ok (.i2l, 1) := by decide +kernel
theorem dL_wake_9 : decode cL_wake 9 = .ok (.lastore, 1) := by decide +kernel
theorem dL_wake_10 : decode cL_wake 10 = .ok (.goto 7, 3) := by decide +kernel
theorem dL_wake_13 : decode cL_wake 13 = .ok (.astore 4, 2) := by decide +kernel
theorem dL_wake_15 : decode cL_wake 15 = .ok (.iconst 1, 1) := by decide +kernel
theorem dL_wake_16 : decode cL_wake 16 = .ok (.ireturn, 1) := by decide +kernel
theorem dL_wake_17 : decode cL_wake 17 = .ok (.iconst 0, 1) := by decide +kernel
theorem dL_wake_18 : decode cL_wake 18 = .ok (.ireturn, 1) := by decide +kernel
theorem dL_separation_0 : decode cL_separation 0 = .ok (.aload_n 3, 1) := by decide +kernel
theorem dL_separation_1 : decode cL_separation 1 = .ok (.iconst 0, 1) := by decide +kernel
theorem dL_separation_2 : decode cL_separation 2 = .ok (.aload_n 0, 1) := by decide +kernel
theorem dL_separation_3 : decode cL_separation 3 = .ok (.iload_n 1, 1) := by decide +kernel
theorem dL_separation_4 : decode cL_separation 4 = .ok (.iload_n 2, 1) := by decide +kernel
theorem dL_separation_5 : decode cL_separation 5 = .ok (.invokevirtual 40, 3) := by decide +kernel
theorem dL_separation_8 : decode cL_separation 8 = .ok (.i2l, 1) := by decide +kernel
theorem dL_separation_9 : decode cL_separation 9 = .ok (.lastore, 1) := by decide +kernel
theorem dL_separation_10 : decode cL_separation 10 = .ok (.goto 7, 3) := by decide +kernel
theorem dL_separation_13 : decode cL_separation 13 = .ok (.astore 4, 2) := by decide +kernel
theorem dL_separation_15 : decode cL_separation 15 = .ok (.iconst 1, 1) := by decide +kernel
theorem dL_separation_16 : decode cL_separation 16 = .ok (.ireturn, 1) := by decide +kernel
theorem dL_separation_17 : decode cL_separation 17 = .ok (.iconst 0, 1) := by decide +kernel
theorem dL_separation_18 : decode cL_separation 18 = .ok (.ireturn, 1) := by decide +kernel
theorem dL_advance_0 : decode cL_advance 0 = .ok (.aload_n 2, 1) := by decide +kernel
theorem dL_advance_1 : decode cL_advance 1 = .ok (.iconst 0, 1) := by decide +kernel
theorem dL_advance_2 : decode cL_advance 2 = .ok (.aload_n 0, 1) := by decide +kernel
theorem dL_advance_3 : decode cL_advance 3 = .ok (.iload_n 1, 1) := by decide +kernel
theorem dL_advance_4 : decode cL_advance 4 = .ok (.invokevirtual 43, 3) := by decide +kernel
theorem dL_advance_7 : decode cL_advance 7 = .ok (.i2l, 1) := by decide +kernel
theorem dL_advance_8 : decode cL_advance 8 = .ok (.lastore, 1) := by decide +kernel
theorem dL_advance_9 : decode cL_advance 9 = .ok (.goto 6, 3) := by decide +kernel
theorem dL_advance_12 : decode cL_advance 12 = .ok (.astore_n 3, 1) := by decide +kernel
theorem dL_advance_13 : decode cL_advance 13 = .ok (.iconst 1, 1) := by decide +kernel
theorem dL_advance_14 : decode cL_advance 14 = .ok (.ireturn, 1) := by decide +kernel
theorem dL_advance_15 : decode cL_advance 15 = .ok (.iconst 0, 1) := by decide +kernel
theorem dL_advance_16 : decode cL_advance 16 = .ok (.ireturn, 1) := by decide +kernel
theorem dL_setShift_0 : decode cL_setShift 0 = .ok (.aload_n 2, 1) := by decide +kernel
theorem dL_setShift_1 : decode cL_setShift 1 = .ok (.iconst 0, 1) := by decide +kernel
theorem dL_setShift_2 : decode cL_setShift 2 = .ok (.aload_n 0, 1) := by decide +kernel
theorem dL_setShift_3 : decode cL_setShift 3 = .ok (.iload_n 1, 1) := by decide +kernel
theorem dL_setShift_4 : decode cL_setShift 4 = .ok (.invokevirtual 46, 3) := by decide +kernel
theorem dL_setShift_7 : decode cL_setShift 7 = .ok (.i2l, 1) := by decide +kernel
theorem dL_setShift_8 : decode cL_setShift 8 = .ok (.lastore, 1) := by decide +kernel
theorem dL_setShift_9 : decode cL_setShift 9 = .ok (.goto 6, 3) := by decide +kernel
theorem dL_setShift_12 : decode cL_setShift 12 = .ok (.astore_n 3, 1) := by decide +kernel
theorem dL_setShift_13 : decode cL_setShift 13 = .ok (.iconst 1, 1) := by decide +kernel
theorem dL_setShift_14 : decode cL_setShift 14 = .ok (.ireturn, 1) := by decide +kernel
theorem dL_setShift_15 : decode cL_setShift 15 = .ok (.iconst 0, 1) := by decide +kernel
theorem dL_setShift_16 : decode cL_setShift 16 = .ok (.ireturn, 1) := by decide +kernel
theorem dL_setWake_0 : decode cL_setWake 0 = .ok (.aload 4, 2) := by decide +kernel
theorem dL_setWake_2 : decode cL_setWake 2 = .ok (.iconst 0, 1) := by decide +kernel
theorem dL_setWake_3 : decode cL_setWake 3 = .ok (.aload_n 0, 1) := by decide +kernel
theorem dL_setWake_4 : decode cL_setWake 4 = .ok (.iload_n 1, 1) := by decide +kernel
theorem dL_setWake_5 : decode cL_setWake 5 = .ok (.iload_n 2, 1) := by decide +kernel
theorem dL_setWake_6 : decode cL_setWake 6 = .ok (.iload_n 3, 1) := by decide +kernel
theorem dL_setWake_7 : decode cL_setWake 7 = .ok (.invokevirtual 49, 3) := by decide +kernel
theorem dL_setWake_10 : decode cL_setWake 10 = .ok (.i2l, 1) := by decide +kernel
theorem dL_setWake_11 : decode cL_setWake 11 = .ok (.lastore, 1) := by decide +kernel
theorem dL_setWake_12 : decode cL_setWake 12 = .ok (.goto 7, 3) := by decide +kernel
theorem dL_setWake_15 : decode cL_setWake 15 = .ok (.astore 5, 2) := by decide +kernel
theorem dL_setWake_17 : decode cL_setWake 17 = .ok (.iconst 1, 1) := by decide +kernel
theorem dL_setWake_18 : decode cL_setWake 18 = .ok (.ireturn, 1) := by decide +kernel
theorem dL_setWake_19 : decode cL_setWake 19 = .ok (.iconst 0, 1) := by decide +kernel
theorem dL_setWake_20 : decode cL_setWake 20 = .ok (.ireturn, 1) := by decide +kernel
theorem dL_runwayOf_0 : decode cL_runwayOf 0 = .ok (.aload_n 2, 1) := by decide +kernel
theorem dL_runwayOf_1 : decode cL_runwayOf 1 = .ok (.iconst 0, 1) := by decide +kernel
theorem dL_runwayOf_2 : decode cL_runwayOf 2 = .ok (.aload_n 0, 1) := by decide +kernel
theorem dL_runwayOf_3 : decode cL_runwayOf 3 = .ok (.iload_n 1, 1) := by decide +kernel
theorem dL_runwayOf_4 : decode cL_runwayOf 4 = .ok (.invokevirtual 53, 3) := by decide +kernel
theorem dL_runwayOf_7 : decode cL_runwayOf 7 = .ok (.i2l, 1) := by decide +kernel
theorem dL_runwayOf_8 : decode cL_runwayOf 8 = .ok (.lastore, 1) := by decide +kernel
theorem dL_runwayOf_9 : decode cL_runwayOf 9 = .ok (.goto 6, 3) := by decide +kernel
theorem dL_runwayOf_12 : decode cL_runwayOf 12 = .ok (.astore_n 3, 1) := by decide +kernel
theorem dL_runwayOf_13 : decode cL_runwayOf 13 = .ok (.iconst 1, 1) := by decide +kernel
theorem dL_runwayOf_14 : decode cL_runwayOf 14 = .ok (.ireturn, 1) := by decide +kernel
theorem dL_runwayOf_15 : decode cL_runwayOf 15 = .ok (.iconst 0, 1) := by decide +kernel
theorem dL_runwayOf_16 : decode cL_runwayOf 16 = .ok (.ireturn, 1) := by decide +kernel
theorem dL_assign_0 : decode cL_assign 0 = .ok (.aload_n 3, 1) := by decide +kernel
theorem dL_assign_1 : decode cL_assign 1 = .ok (.iconst 0, 1) := by decide +kernel
theorem dL_assign_2 : decode cL_assign 2 = .ok (.aload_n 0, 1) := by decide +kernel
theorem dL_assign_3 : decode cL_assign 3 = .ok (.iload_n 1, 1) := by decide +kernel
theorem dL_assign_4 : decode cL_assign 4 = .ok (.iload_n 2, 1) := by decide +kernel
theorem dL_assign_5 : decode cL_assign 5 = .ok (.invokevirtual 56, 3) := by decide +kernel
theorem dL_assign_8 : decode cL_assign 8 = .ok (.i2l, 1) := by decide +kernel
theorem dL_assign_9 : decode cL_assign 9 = .ok (.lastore, 1) := by decide +kernel
theorem dL_assign_10 : decode cL_assign 10 = .ok (.goto 7, 3) := by decide +kernel
theorem dL_assign_13 : decode cL_assign 13 = .ok (.astore 4, 2) := by decide +kernel
theorem dL_assign_15 : decode cL_assign 15 = .ok (.iconst 1, 1) := by decide +kernel
theorem dL_assign_16 : decode cL_assign 16 = .ok (.ireturn, 1) := by decide +kernel
theorem dL_assign_17 : decode cL_assign 17 = .ok (.iconst 0, 1) := by decide +kernel
theorem dL_assign_18 : decode cL_assign 18 = .ok (.ireturn, 1) := by decide +kernel
theorem dL_cancel_0 : decode cL_cancel 0 = .ok (.aload_n 2, 1) := by decide +kernel
theorem dL_cancel_1 : decode cL_cancel 1 = .ok (.iconst 0, 1) := by decide +kernel
theorem dL_cancel_2 : decode cL_cancel 2 = .ok (.aload_n 0, 1) := by decide +kernel
theorem dL_cancel_3 : decode cL_cancel 3 = .ok (.iload_n 1, 1) := by decide +kernel
theorem dL_cancel_4 : decode cL_cancel 4 = .ok (.invokevirtual 59, 3) := by decide +kernel
theorem dL_cancel_7 : decode cL_cancel 7 = .ok (.i2l, 1) := by decide +kernel
theorem dL_cancel_8 : decode cL_cancel 8 = .ok (.lastore, 1) := by decide +kernel
theorem dL_cancel_9 : decode cL_cancel 9 = .ok (.goto 6, 3) := by decide +kernel
theorem dL_cancel_12 : decode cL_cancel 12 = .ok (.astore_n 3, 1) := by decide +kernel
theorem dL_cancel_13 : decode cL_cancel 13 = .ok (.iconst 1, 1) := by decide +kernel
theorem dL_cancel_14 : decode cL_cancel 14 = .ok (.ireturn, 1) := by decide +kernel
theorem dL_cancel_15 : decode cL_cancel 15 = .ok (.iconst 0, 1) := by decide +kernel
theorem dL_cancel_16 : decode cL_cancel 16 = .ok (.ireturn, 1) := by decide +kernel
theorem dL_goAround_0 : decode cL_goAround 0 = .ok (.aload_n 2, 1) := by decide +kernel
theorem dL_goAround_1 : decode cL_goAround 1 = .ok (.iconst 0, 1) := by decide +kernel
theorem dL_goAround_2 : decode cL_goAround 2 = .ok (.aload_n 0, 1) := by decide +kernel
theorem dL_goAround_3 : decode cL_goAround 3 = .ok (.iload_n 1, 1) := by decide +kernel
theorem dL_goAround_4 : decode cL_goAround 4 = .ok (.invokevirtual 62, 3) := by decide +kernel
theorem dL_goAround_7 : decode cL_goAround 7 = .ok (.i2l, 1) := by decide +kernel
theorem dL_goAround_8 : decode cL_goAround 8 = .ok (.lastore, 1) := by decide +kernel
theorem dL_goAround_9 : decode cL_goAround 9 = .ok (.goto 6, 3) := by decide +kernel
theorem dL_goAround_12 : decode cL_goAround 12 = .ok (.astore_n 3, 1) := by decide +kernel
theorem dL_goAround_13 : decode cL_goAround 13 = .ok (.iconst 1, 1) := by decide +kernel
theorem dL_goAround_14 : decode cL_goAround 14 = .ok (.ireturn, 1) := by decide +kernel
theorem dL_goAround_15 : decode cL_goAround 15 = .ok (.iconst 0, 1) := by decide +kernel
theorem dL_goAround_16 : decode cL_goAround 16 = .ok (.ireturn, 1) := by decide +kernel
theorem dL_stateOf_0 : decode cL_stateOf 0 = .ok (.aload_n 2, 1) := by decide +kernel
theorem dL_stateOf_1 : decode cL_stateOf 1 = .ok (.iconst 0, 1) := by decide +kernel
theorem dL_stateOf_2 : decode cL_stateOf 2 = .ok (.aload_n 0, 1) := by decide +kernel
theorem dL_stateOf_3 : decode cL_stateOf 3 = .ok (.iload_n 1, 1) := by decide +kernel
theorem dL_stateOf_4 : decode cL_stateOf 4 = .ok (.invokevirtual 65, 3) := by decide +kernel
theorem dL_stateOf_7 : decode cL_stateOf 7 = .ok (.i2l, 1) := by decide +kernel
theorem dL_stateOf_8 : decode cL_stateOf 8 = .ok (.lastore, 1) := by decide +kernel
theorem dL_stateOf_9 : decode cL_stateOf 9 = .ok (.goto 6, 3) := by decide +kernel
theorem dL_stateOf_12 : decode cL_stateOf 12 = .ok (.astore_n 3, 1) := by decide +kernel
theorem dL_stateOf_13 : decode cL_stateOf 13 = .ok (.iconst 1, 1) := by decide +kernel
theorem dL_stateOf_14 : decode cL_stateOf 14 = .ok (.ireturn, 1) := by decide +kernel
theorem dL_stateOf_15 : decode cL_stateOf 15 = .ok (.iconst 0, 1) := by decide +kernel
theorem dL_stateOf_16 : decode cL_stateOf 16 = .ok (.ireturn, 1) := by decide +kernel
theorem dL_timeOf_0 : decode cL_timeOf 0 = .ok (.aload_n 2, 1) := by decide +kernel
theorem dL_timeOf_1 : decode cL_timeOf 1 = .ok (.iconst 0, 1) := by decide +kernel
theorem dL_timeOf_2 : decode cL_timeOf 2 = .ok (.aload_n 0, 1) := by decide +kernel
theorem dL_timeOf_3 : decode cL_timeOf 3 = .ok (.iload_n 1, 1) := by decide +kernel
theorem dL_timeOf_4 : decode cL_timeOf 4 = .ok (.invokevirtual 68, 3) := by decide +kernel
theorem dL_timeOf_7 : decode cL_timeOf 7 = .ok (.i2l, 1) := by decide +kernel
theorem dL_timeOf_8 : decode cL_timeOf 8 = .ok (.lastore, 1) := by decide +kernel
theorem dL_timeOf_9 : decode cL_timeOf 9 = .ok (.goto 6, 3) := by decide +kernel
theorem dL_timeOf_12 : decode cL_timeOf 12 = .ok (.astore_n 3, 1) := by decide +kernel
theorem dL_timeOf_13 : decode cL_timeOf 13 = .ok (.iconst 1, 1) := by decide +kernel
theorem dL_timeOf_14 : decode cL_timeOf 14 = .ok (.ireturn, 1) := by decide +kernel
theorem dL_timeOf_15 : decode cL_timeOf 15 = .ok (.iconst 0, 1) := by decide +kernel
theorem dL_timeOf_16 : decode cL_timeOf 16 = .ok (.ireturn, 1) := by decide +kernel
theorem dL_placeOf_0 : decode cL_placeOf 0 = .ok (.aload_n 2, 1) := by decide +kernel
theorem dL_placeOf_1 : decode cL_placeOf 1 = .ok (.iconst 0, 1) := by decide +kernel
theorem dL_placeOf_2 : decode cL_placeOf 2 = .ok (.aload_n 0, 1) := by decide +kernel
theorem dL_placeOf_3 : decode cL_placeOf 3 = .ok (.iload_n 1, 1) := by decide +kernel
theorem dL_placeOf_4 : decode cL_placeOf 4 = .ok (.invokevirtual 71, 3) := by decide +kernel
theorem dL_placeOf_7 : decode cL_placeOf 7 = .ok (.i2l, 1) := by decide +kernel
theorem dL_placeOf_8 : decode cL_placeOf 8 = .ok (.lastore, 1) := by decide +kernel
theorem dL_placeOf_9 : decode cL_placeOf 9 = .ok (.goto 6, 3) := by decide +kernel
theorem dL_placeOf_12 : decode cL_placeOf 12 = .ok (.astore_n 3, 1) := by decide +kernel
theorem dL_placeOf_13 : decode cL_placeOf 13 = .ok (.iconst 1, 1) := by decide +kernel
theorem dL_placeOf_14 : decode cL_placeOf 14 = .ok (.ireturn, 1) := by decide +kernel
theorem dL_placeOf_15 : decode cL_placeOf 15 = .ok (.iconst 0, 1) := by decide +kernel
theorem dL_placeOf_16 : decode cL_placeOf 16 = .ok (.ireturn, 1) := by decide +kernel
theorem dL_firstComePlace_0 : decode cL_firstComePlace 0 = .ok (.aload_n 2, 1) := by decide +kernel
theorem dL_firstComePlace_1 : decode cL_firstComePlace 1 = .ok (.iconst 0, 1) := by decide +kernel
theorem dL_firstComePlace_2 : decode cL_firstComePlace 2 = .ok (.aload_n 0, 1) := by decide +kernel
theorem dL_firstComePlace_3 : decode cL_firstComePlace 3 = .ok (.iload_n 1, 1) := by decide +kernel
theorem dL_firstComePlace_4 : decode cL_firstComePlace 4 = .ok (.invokevirtual 74, 3) := by decide +kernel
theorem dL_firstComePlace_7 : decode cL_firstComePlace 7 = .ok (.i2l, 1) := by decide +kernel
theorem dL_firstComePlace_8 : decode cL_firstComePlace 8 = .ok (.lastore, 1) := by decide +kernel
theorem dL_firstComePlace_9 : decode cL_firstComePlace 9 = .ok (.goto 6, 3) := by decide +kernel
theorem dL_firstComePlace_12 : decode cL_firstComePlace 12 = .ok (.astore_n 3, 1) := by decide +kernel
theorem dL_firstComePlace_13 : decode cL_firstComePlace 13 = .ok (.iconst 1, 1) := by decide +kernel
theorem dL_firstComePlace_14 : decode cL_firstComePlace 14 = .ok (.ireturn, 1) := by decide +kernel
theorem dL_firstComePlace_15 : decode cL_firstComePlace 15 = .ok (.iconst 0, 1) := by decide +kernel
theorem dL_firstComePlace_16 : decode cL_firstComePlace 16 = .ok (.ireturn, 1) := by decide +kernel
theorem l_appendByte {l : Launch} {G : GT} {H : AH} {x o p1 : Int} {d mc ms : Nat} {Q9 : AV → AH → Prop} (hG : GX l G) (hx : hk H x = 6) (hQ : ∀ r H', Q9 r H' → ((∃ y, r = vI y) ∨ r = vT 0) ∧ H'.2.1 o = (13, 1)) (hc : CL l G mX7_appendByte d mc ms [vR x, vI p1] H Q9) : CLH l G mL_appendByte (d + 1) mc ms [vR x, vI p1, vR o] H (lQ o 0 vI (fun y => y) Q9) := by
  refine CLH.of (by decide) (Nat.le_of_ble_eq_true rfl) ?_
  show AW l G mL_appendByte (d + 1) mc ms _ 0 [vR x, vI p1, vR o, vU] [] 0 0 H
  refine a_aload_n dL_appendByte_0 rfl rfl ?_
  refine a_iconst dL_appendByte_1 ⟨by decide, by decide⟩ ?_
  refine a_aload_n dL_appendByte_2 rfl rfl ?_
  refine a_iload_n dL_appendByte_3 rfl rfl ?_
  refine a_callVH hG dL_appendByte_4 cw_L_appendByte_4 (as := [vI p1]) rfl rfl hx (Nat.le_refl _) (Nat.le_of_ble_eq_true rfl) (by omega) (by omega) (CL.mono hc ?_)
  intro r9 H9 q9
  obtain ⟨hr, ho⟩ := hQ r9 H9 q9
  rcases hr with ⟨y, rfl⟩ | rfl
  · show AW l G mL_appendByte (d + 1) mc ms _ 7 [vR x, vI p1, vR o, vU] [vI y, vI 0, vR o] (0 + mc) (0 + ms) H9
    refine a_i2l dL_appendByte_7 ?_
    refine b_last dL_appendByte_8 (congrArg Prod.fst ho) (congrArg Prod.snd ho) (by omega) ?_
    refine a_goto dL_appendByte_9 (tgt := 15) rfl ?_
    refine a_iconst dL_appendByte_15 ⟨by decide, by decide⟩ ?_
    exact a_iret dL_appendByte_16 rfl (by omega) (by omega) (Or.inl ⟨y, H9, q9, rfl, rfl⟩)
  · refine (show ∃ hp : Nat, CT G mL_appendByte 4 0 hp ∧ ∀ q : Nat, AW l G mL_appendByte (d + 1) mc ms (lQ o 0 vI (fun y => y) Q9) hp [vR x, vI p1, vR o, vU] [vX q] (0 + mc) (0 + ms) H9 from ⟨12, ⟨[], ⟨0, 9, 12, 13⟩, [], rfl, rfl, rfl, by decide, wlk_13, fun y hy => absurd hy List.not_mem_nil⟩, fun q => ?_⟩)
    refine a_xstore_n dL_appendByte_12 rfl (by decide) rfl ?_
    refine a_iconst dL_appendByte_13 ⟨by decide, by decide⟩ ?_
    exact a_iret dL_appendByte_14 rfl (by omega) (by omega) (Or.inr ⟨q9, rfl⟩)
theorem l_nameByte {l : Launch} {G : GT} {H : AH} {x o p1 p2 : Int} {d mc ms : Nat} {Q9 : AV → AH → Prop} (hG : GX l G) (hx : hk H x = 6) (hQ : ∀ r H', Q9 r H' → ((∃ y, r = vI y) ∨ r = vT 1) ∧ H'.2.1 o = (13, 1)) (hc : CL l G mX7_nameByte d mc ms [vR x, vI p1, vI p2] H Q9) : CLH l G mL_nameByte (d + 1) mc ms [vR x, vI p1, vI p2, vR o] H (lQ o 1 vI (fun y => y) Q9) := by
  refine CLH.of (by decide) (Nat.le_of_ble_eq_true rfl) ?_
  show AW l G mL_nameByte (d + 1) mc ms _ 0 [vR x, vI p1, vI p2, vR o, vU] [] 0 0 H
  refine a_aload_n dL_nameByte_0 rfl rfl ?_
  refine a_iconst dL_nameByte_1 ⟨by decide, by decide⟩ ?_
  refine a_aload_n dL_nameByte_2 rfl rfl ?_
  refine a_iload_n dL_nameByte_3 rfl rfl ?_
  refine a_iload_n dL_nameByte_4 rfl rfl ?_
  refine a_callVH hG dL_nameByte_5 cw_L_nameByte_5 (as := [vI p1, vI p2]) rfl rfl hx (Nat.le_refl _) (Nat.le_of_ble_eq_true rfl) (by omega) (by omega) (CL.mono hc ?_)
  intro r9 H9 q9
  obtain ⟨hr, ho⟩ := hQ r9 H9 q9
  rcases hr with ⟨y, rfl⟩ | rfl
  · show AW l G mL_nameByte (d + 1) mc ms _ 8 [vR x, vI p1, vI p2, vR o, vU] [vI y, vI 0, vR o] (0 + mc) (0 + ms) H9
    refine a_i2l dL_nameByte_8 ?_
    refine b_last dL_nameByte_9 (congrArg Prod.fst ho) (congrArg Prod.snd ho) (by omega) ?_
    refine a_goto dL_nameByte_10 (tgt := 17) rfl ?_
    refine a_iconst dL_nameByte_17 ⟨by decide, by decide⟩ ?_
    exact a_iret dL_nameByte_18 rfl (by omega) (by omega) (Or.inl ⟨y, H9, q9, rfl, rfl⟩)
  · refine (show ∃ hp : Nat, CT G mL_nameByte 5 1 hp ∧ ∀ q : Nat, AW l G mL_nameByte (d + 1) mc ms (lQ o 1 vI (fun y => y) Q9) hp [vR x, vI p1, vI p2, vR o, vU] [vX q] (0 + mc) (0 + ms) H9 from ⟨13, ⟨[], ⟨0, 10, 13, 19⟩, [], rfl, rfl, rfl, by decide, wlk_19, fun y hy => absurd hy List.not_mem_nil⟩, fun q => ?_⟩)
    refine a_xstore dL_nameByte_13 (by decide) rfl ?_
    refine a_iconst dL_nameByte_15 ⟨by decide, by decide⟩ ?_
    exact a_iret dL_nameByte_16 rfl (by omega) (by omega) (Or.inr ⟨q9, rfl⟩)
theorem l_isArrival {l : Launch} {G : GT} {H : AH} {x o p1 : Int} {d mc ms : Nat} {Q9 : AV → AH → Prop} (hG : GX l G) (hx : hk H x = 6) (hQ : ∀ r H', Q9 r H' → ((∃ y, r = vI y ∧ (y = 0 ∨ y = 1)) ∨ r = vT 1) ∧ H'.2.1 o = (13, 1)) (hc : CL l G mX7_isArrival d mc ms [vR x, vI p1] H Q9) : CLH l G mL_isArrival (d + 1) mc ms [vR x, vI p1, vR o] H (lQ o 1 vI (fun y => y) Q9) := by
  refine CLH.of (by decide) (Nat.le_of_ble_eq_true rfl) ?_
  show AW l G mL_isArrival (d + 1) mc ms _ 0 [vR x, vI p1, vR o, vU] [] 0 0 H
  refine a_aload_n dL_isArrival_0 rfl rfl ?_
  refine a_iconst dL_isArrival_1 ⟨by decide, by decide⟩ ?_
  refine a_aload_n dL_isArrival_2 rfl rfl ?_
  refine a_iload_n dL_isArrival_3 rfl rfl ?_
  refine a_callVH hG dL_isArrival_4 cw_L_isArrival_4 (as := [vI p1]) rfl rfl hx (Nat.le_refl _) (Nat.le_of_ble_eq_true rfl) (by omega) (by omega) (CL.mono hc ?_)
  intro r9 H9 q9
  obtain ⟨hr, ho⟩ := hQ r9 H9 q9
  rcases hr with ⟨y, rfl, hy⟩ | rfl
  · show AW l G mL_isArrival (d + 1) mc ms _ 7 [vR x, vI p1, vR o, vU] [vI y, vI 0, vR o] (0 + mc) (0 + ms) H9
    refine a_if_eq dL_isArrival_7 (tgt := 14) rfl (fun c9 => ?_) (fun c9 => ?_)
    · subst c9
      refine a_lconst dL_isArrival_14 ?_
      show AW l G mL_isArrival (d + 1) mc ms _ 15 [vR x, vI p1, vR o, vU] [vJ 0, vI 0, vR o] (0 + mc) (0 + ms) H9
      refine b_last dL_isArrival_15 (congrArg Prod.fst ho) (congrArg Prod.snd ho) (by omega) ?_
      refine a_goto dL_isArrival_16 (tgt := 22) rfl ?_
      refine a_iconst dL_isArrival_22 ⟨by decide, by decide⟩ ?_
      exact a_iret dL_isArrival_23 rfl (by omega) (by omega) (Or.inl ⟨0, H9, q9, rfl, rfl⟩)
    · have hy1 : y = 1 := by omega
      subst hy1
      refine a_lconst dL_isArrival_10 ?_
      show AW l G mL_isArrival (d + 1) mc ms _ 11 [vR x, vI p1, vR o, vU] [vJ 1, vI 0, vR o] (0 + mc) (0 + ms) H9
      refine a_goto dL_isArrival_11 (tgt := 15) rfl ?_
      refine b_last dL_isArrival_15 (congrArg Prod.fst ho) (congrArg Prod.snd ho) (by omega) ?_
      refine a_goto dL_isArrival_16 (tgt := 22) rfl ?_
      refine a_iconst dL_isArrival_22 ⟨by decide, by decide⟩ ?_
      exact a_iret dL_isArrival_23 rfl (by omega) (by omega) (Or.inl ⟨1, H9, q9, rfl, rfl⟩)
  · refine (show ∃ hp : Nat, CT G mL_isArrival 4 1 hp ∧ ∀ q : Nat, AW l G mL_isArrival (d + 1) mc ms (lQ o 1 vI (fun y => y) Q9) hp [vR x, vI p1, vR o, vU] [vX q] (0 + mc) (0 + ms) H9 from ⟨19, ⟨[], ⟨0, 16, 19, 19⟩, [], rfl, rfl, rfl, by decide, wlk_19, fun y hy => absurd hy List.not_mem_nil⟩, fun q => ?_⟩)
    refine a_xstore_n dL_isArrival_19 rfl (by decide) rfl ?_
    refine a_iconst dL_isArrival_20 ⟨by decide, by decide⟩ ?_
    exact a_iret dL_isArrival_21 rfl (by omega) (by omega) (Or.inr ⟨q9, rfl⟩)
theorem l_classOf {l : Launch} {G : GT} {H : AH} {x o p1 : Int} {d mc ms : Nat} {Q9 : AV → AH → Prop} (hG : GX l G) (hx : hk H x = 6) (hQ : ∀ r H', Q9 r H' → ((∃ y, r = vI y) ∨ r = vT 1) ∧ H'.2.1 o = (13, 1)) (hc : CL l G mX7_classOf d mc ms [vR x, vI p1] H Q9) : CLH l G mL_classOf (d + 1) mc ms [vR x, vI p1, vR o] H (lQ o 1 vI (fun y => y) Q9) := by
  refine CLH.of (by decide) (Nat.le_of_ble_eq_true rfl) ?_
  show AW l G mL_classOf (d + 1) mc ms _ 0 [vR x, vI p1, vR o, vU] [] 0 0 H
  refine a_aload_n dL_classOf_0 rfl rfl ?_
  refine a_iconst dL_classOf_1 ⟨by decide, by decide⟩ ?_
  refine a_aload_n dL_classOf_2 rfl rfl ?_
  refine a_iload_n dL_classOf_3 rfl rfl ?_
  refine a_callVH hG dL_classOf_4 cw_L_classOf_4 (as := [vI p1]) rfl rfl hx (Nat.le_refl _) (Nat.le_of_ble_eq_true rfl) (by omega) (by omega) (CL.mono hc ?_)
  intro r9 H9 q9
  obtain ⟨hr, ho⟩ := hQ r9 H9 q9
  rcases hr with ⟨y, rfl⟩ | rfl
  · show AW l G mL_classOf (d + 1) mc ms _ 7 [vR x, vI p1, vR o, vU] [vI y, vI 0, vR o] (0 + mc) (0 + ms) H9
    refine a_i2l dL_classOf_7 ?_
    refine b_last dL_classOf_8 (congrArg Prod.fst ho) (congrArg Prod.snd ho) (by omega) ?_
    refine a_goto dL_classOf_9 (tgt := 15) rfl ?_
    refine a_iconst dL_classOf_15 ⟨by decide, by decide⟩ ?_
    exact a_iret dL_classOf_16 rfl (by omega) (by omega) (Or.inl ⟨y, H9, q9, rfl, rfl⟩)
  · refine (show ∃ hp : Nat, CT G mL_classOf 4 1 hp ∧ ∀ q : Nat, AW l G mL_classOf (d + 1) mc ms (lQ o 1 vI (fun y => y) Q9) hp [vR x, vI p1, vR o, vU] [vX q] (0 + mc) (0 + ms) H9 from ⟨12, ⟨[], ⟨0, 9, 12, 19⟩, [], rfl, rfl, rfl, by decide, wlk_19, fun y hy => absurd hy List.not_mem_nil⟩, fun q => ?_⟩)
    refine a_xstore_n dL_classOf_12 rfl (by decide) rfl ?_
    refine a_iconst dL_classOf_13 ⟨by decide, by decide⟩ ?_
    exact a_iret dL_classOf_14 rfl (by omega) (by omega) (Or.inr ⟨q9, rfl⟩)
theorem l_earliest {l : Launch} {G : GT} {H : AH} {x o p1 : Int} {d mc ms : Nat} {Q9 : AV → AH → Prop} (hG : GX l G) (hx : hk H x = 6) (hQ : ∀ r H', Q9 r H' → ((∃ y, r = vI y) ∨ r = vT 1) ∧ H'.2.1 o = (13, 1)) (hc : CL l G mX7_earliest d mc ms [vR x, vI p1] H Q9) : CLH l G mL_earliest (d + 1) mc ms [vR x, vI p1, vR o] H (lQ o 1 vI (fun y => y) Q9) := by
  refine CLH.of (by decide) (Nat.le_of_ble_eq_true rfl) ?_
  show AW l G mL_earliest (d + 1) mc ms _ 0 [vR x, vI p1, vR o, vU] [] 0 0 H
  refine a_aload_n dL_earliest_0 rfl rfl ?_
  refine a_iconst dL_earliest_1 ⟨by decide, by decide⟩ ?_
  refine a_aload_n dL_earliest_2 rfl rfl ?_
  refine a_iload_n dL_earliest_3 rfl rfl ?_
  refine a_callVH hG dL_earliest_4 cw_L_earliest_4 (as := [vI p1]) rfl rfl hx (Nat.le_refl _) (Nat.le_of_ble_eq_true rfl) (by omega) (by omega) (CL.mono hc ?_)
  intro r9 H9 q9
  obtain ⟨hr, ho⟩ := hQ r9 H9 q9
  rcases hr with ⟨y, rfl⟩ | rfl
  · show AW l G mL_earliest (d + 1) mc ms _ 7 [vR x, vI p1, vR o, vU] [vI y, vI 0, vR o] (0 + mc) (0 + ms) H9
    refine a_i2l dL_earliest_7 ?_
    refine b_last dL_earliest_8 (congrArg Prod.fst ho) (congrArg Prod.snd ho) (by omega) ?_
    refine a_goto dL_earliest_9 (tgt := 15) rfl ?_
    refine a_iconst dL_earliest_15 ⟨by decide, by decide⟩ ?_
    exact a_iret dL_earliest_16 rfl (by omega) (by omega) (Or.inl ⟨y, H9, q9, rfl, rfl⟩)
  · refine (show ∃ hp : Nat, CT G mL_earliest 4 1 hp ∧ ∀ q : Nat, AW l G mL_earliest (d + 1) mc ms (lQ o 1 vI (fun y => y) Q9) hp [vR x, vI p1, vR o, vU] [vX q] (0 + mc) (0 + ms) H9 from ⟨12, ⟨[], ⟨0, 9, 12, 19⟩, [], rfl, rfl, rfl, by decide, wlk_19, fun y hy => absurd hy List.not_mem_nil⟩, fun q => ?_⟩)
    refine a_xstore_n dL_earliest_12 rfl (by decide) rfl ?_
    refine a_iconst dL_earliest_13 ⟨by decide, by decide⟩ ?_
    exact a_iret dL_earliest_14 rfl (by omega) (by omega) (Or.inr ⟨q9, rfl⟩)
theorem l_target {l : Launch} {G : GT} {H : AH} {x o p1 : Int} {d mc ms : Nat} {Q9 : AV → AH → Prop} (hG : GX l G) (hx : hk H x = 6) (hQ : ∀ r H', Q9 r H' → ((∃ y, r = vI y) ∨ r = vT 1) ∧ H'.2.1 o = (13, 1)) (hc : CL l G mX7_target d mc ms [vR x, vI p1] H Q9) : CLH l G mL_target (d + 1) mc ms [vR x, vI p1, vR o] H (lQ o 1 vI (fun y => y) Q9) := by
  refine CLH.of (by decide) (Nat.le_of_ble_eq_true rfl) ?_
  show AW l G mL_target (d + 1) mc ms _ 0 [vR x, vI p1, vR o, vU] [] 0 0 H
  refine a_aload_n dL_target_0 rfl rfl ?_
  refine a_iconst dL_target_1 ⟨by decide, by decide⟩ ?_
  refine a_aload_n dL_target_2 rfl rfl ?_
  refine a_iload_n dL_target_3 rfl rfl ?_
  refine a_callVH hG dL_target_4 cw_L_target_4 (as := [vI p1]) rfl rfl hx (Nat.le_refl _) (Nat.le_of_ble_eq_true rfl) (by omega) (by omega) (CL.mono hc ?_)
  intro r9 H9 q9
  obtain ⟨hr, ho⟩ := hQ r9 H9 q9
  rcases hr with ⟨y, rfl⟩ | rfl
  · show AW l G mL_target (d + 1) mc ms _ 7 [vR x, vI p1, vR o, vU] [vI y, vI 0, vR o] (0 + mc) (0 + ms) H9
    refine a_i2l dL_target_7 ?_
    refine b_last dL_target_8 (congrArg Prod.fst ho) (congrArg Prod.snd ho) (by omega) ?_
    refine a_goto dL_target_9 (tgt := 15) rfl ?_
    refine a_iconst dL_target_15 ⟨by decide, by decide⟩ ?_
    exact a_iret dL_target_16 rfl (by omega) (by omega) (Or.inl ⟨y, H9, q9, rfl, rfl⟩)
  · refine (show ∃ hp : Nat, CT G mL_target 4 1 hp ∧ ∀ q : Nat, AW l G mL_target (d + 1) mc ms (lQ o 1 vI (fun y => y) Q9) hp [vR x, vI p1, vR o, vU] [vX q] (0 + mc) (0 + ms) H9 from ⟨12, ⟨[], ⟨0, 9, 12, 19⟩, [], rfl, rfl, rfl, by decide, wlk_19, fun y hy => absurd hy List.not_mem_nil⟩, fun q => ?_⟩)
    refine a_xstore_n dL_target_12 rfl (by decide) rfl ?_
    refine a_iconst dL_target_13 ⟨by decide, by decide⟩ ?_
    exact a_iret dL_target_14 rfl (by omega) (by omega) (Or.inr ⟨q9, rfl⟩)
theorem l_latest {l : Launch} {G : GT} {H : AH} {x o p1 : Int} {d mc ms : Nat} {Q9 : AV → AH → Prop} (hG : GX l G) (hx : hk H x = 6) (hQ : ∀ r H', Q9 r H' → ((∃ y, r = vI y) ∨ r = vT 1) ∧ H'.2.1 o = (13, 1)) (hc : CL l G mX7_latest d mc ms [vR x, vI p1] H Q9) : CLH l G mL_latest (d + 1) mc ms [vR x, vI p1, vR o] H (lQ o 1 vI (fun y => y) Q9) := by
  refine CLH.of (by decide) (Nat.le_of_ble_eq_true rfl) ?_
  show AW l G mL_latest (d + 1) mc ms _ 0 [vR x, vI p1, vR o, vU] [] 0 0 H
  refine a_aload_n dL_latest_0 rfl rfl ?_
  refine a_iconst dL_latest_1 ⟨by decide, by decide⟩ ?_
  refine a_aload_n dL_latest_2 rfl rfl ?_
  refine a_iload_n dL_latest_3 rfl rfl ?_
  refine a_callVH hG dL_latest_4 cw_L_latest_4 (as := [vI p1]) rfl rfl hx (Nat.le_refl _) (Nat.le_of_ble_eq_true rfl) (by omega) (by omega) (CL.mono hc ?_)
  intro r9 H9 q9
  obtain ⟨hr, ho⟩ := hQ r9 H9 q9
  rcases hr with ⟨y, rfl⟩ | rfl
  · show AW l G mL_latest (d + 1) mc ms _ 7 [vR x, vI p1, vR o, vU] [vI y, vI 0, vR o] (0 + mc) (0 + ms) H9
    refine a_i2l dL_latest_7 ?_
    refine b_last dL_latest_8 (congrArg Prod.fst ho) (congrArg Prod.snd ho) (by omega) ?_
    refine a_goto dL_latest_9 (tgt := 15) rfl ?_
    refine a_iconst dL_latest_15 ⟨by decide, by decide⟩ ?_
    exact a_iret dL_latest_16 rfl (by omega) (by omega) (Or.inl ⟨y, H9, q9, rfl, rfl⟩)
  · refine (show ∃ hp : Nat, CT G mL_latest 4 1 hp ∧ ∀ q : Nat, AW l G mL_latest (d + 1) mc ms (lQ o 1 vI (fun y => y) Q9) hp [vR x, vI p1, vR o, vU] [vX q] (0 + mc) (0 + ms) H9 from ⟨12, ⟨[], ⟨0, 9, 12, 19⟩, [], rfl, rfl, rfl, by decide, wlk_19, fun y hy => absurd hy List.not_mem_nil⟩, fun q => ?_⟩)
    refine a_xstore_n dL_latest_12 rfl (by decide) rfl ?_
    refine a_iconst dL_latest_13 ⟨by decide, by decide⟩ ?_
    exact a_iret dL_latest_14 rfl (by omega) (by omega) (Or.inr ⟨q9, rfl⟩)
theorem l_wake {l : Launch} {G : GT} {H : AH} {x o p1 p2 : Int} {d mc ms : Nat} {Q9 : AV → AH → Prop} (hG : GX l G) (hx : hk H x = 6) (hQ : ∀ r H', Q9 r H' → ((∃ y, r = vI y) ∨ r = vT 0) ∧ H'.2.1 o = (13, 1)) (hc : CL l G mX7_wake d mc ms [vR x, vI p1, vI p2] H Q9) : CLH l G mL_wake (d + 1) mc ms [vR x, vI p1, vI p2, vR o] H (lQ o 0 vI (fun y => y) Q9) := by
  refine CLH.of (by decide) (Nat.le_of_ble_eq_true rfl) ?_
  show AW l G mL_wake (d + 1) mc ms _ 0 [vR x, vI p1, vI p2, vR o, vU] [] 0 0 H
  refine a_aload_n dL_wake_0 rfl rfl ?_
  refine a_iconst dL_wake_1 ⟨by decide, by decide⟩ ?_
  refine a_aload_n dL_wake_2 rfl rfl ?_
  refine a_iload_n dL_wake_3 rfl rfl ?_
  refine a_iload_n dL_wake_4 rfl rfl ?_
  refine a_callVH hG dL_wake_5 cw_L_wake_5 (as := [vI p1, vI p2]) rfl rfl hx (Nat.le_refl _) (Nat.le_of_ble_eq_true rfl) (by omega) (by omega) (CL.mono hc ?_)
  intro r9 H9 q9
  obtain ⟨hr, ho⟩ := hQ r9 H9 q9
  rcases hr with ⟨y, rfl⟩ | rfl
  · show AW l G mL_wake (d + 1) mc ms _ 8 [vR x, vI p1, vI p2, vR o, vU] [vI y, vI 0, vR o] (0 + mc) (0 + ms) H9
    refine a_i2l dL_wake_8 ?_
    refine b_last dL_wake_9 (congrArg Prod.fst ho) (congrArg Prod.snd ho) (by omega) ?_
    refine a_goto dL_wake_10 (tgt := 17) rfl ?_
    refine a_iconst dL_wake_17 ⟨by decide, by decide⟩ ?_
    exact a_iret dL_wake_18 rfl (by omega) (by omega) (Or.inl ⟨y, H9, q9, rfl, rfl⟩)
  · refine (show ∃ hp : Nat, CT G mL_wake 5 0 hp ∧ ∀ q : Nat, AW l G mL_wake (d + 1) mc ms (lQ o 0 vI (fun y => y) Q9) hp [vR x, vI p1, vI p2, vR o, vU] [vX q] (0 + mc) (0 + ms) H9 from ⟨13, ⟨[], ⟨0, 10, 13, 13⟩, [], rfl, rfl, rfl, by decide, wlk_13, fun y hy => absurd hy List.not_mem_nil⟩, fun q => ?_⟩)
    refine a_xstore dL_wake_13 (by decide) rfl ?_
    refine a_iconst dL_wake_15 ⟨by decide, by decide⟩ ?_
    exact a_iret dL_wake_16 rfl (by omega) (by omega) (Or.inr ⟨q9, rfl⟩)
theorem l_separation {l : Launch} {G : GT} {H : AH} {x o p1 p2 : Int} {d mc ms : Nat} {Q9 : AV → AH → Prop} (hG : GX l G) (hx : hk H x = 6) (hQ : ∀ r H', Q9 r H' → ((∃ y, r = vI y) ∨ r = vT 1) ∧ H'.2.1 o = (13, 1)) (hc : CL l G mX7_separation d mc ms [vR x, vI p1, vI p2] H Q9) : CLH l G mL_separation (d + 1) mc ms [vR x, vI p1, vI p2, vR o] H (lQ o 1 vI (fun y => y) Q9) := by
  refine CLH.of (by decide) (Nat.le_of_ble_eq_true rfl) ?_
  show AW l G mL_separation (d + 1) mc ms _ 0 [vR x, vI p1, vI p2, vR o, vU] [] 0 0 H
  refine a_aload_n dL_separation_0 rfl rfl ?_
  refine a_iconst dL_separation_1 ⟨by decide, by decide⟩ ?_
  refine a_aload_n dL_separation_2 rfl rfl ?_
  refine a_iload_n dL_separation_3 rfl rfl ?_
  refine a_iload_n dL_separation_4 rfl rfl ?_
  refine a_callVH hG dL_separation_5 cw_L_separation_5 (as := [vI p1, vI p2]) rfl rfl hx (Nat.le_refl _) (Nat.le_of_ble_eq_true rfl) (by omega) (by omega) (CL.mono hc ?_)
  intro r9 H9 q9
  obtain ⟨hr, ho⟩ := hQ r9 H9 q9
  rcases hr with ⟨y, rfl⟩ | rfl
  · show AW l G mL_separation (d + 1) mc ms _ 8 [vR x, vI p1, vI p2, vR o, vU] [vI y, vI 0, vR o] (0 + mc) (0 + ms) H9
    refine a_i2l dL_separation_8 ?_
    refine b_last dL_separation_9 (congrArg Prod.fst ho) (congrArg Prod.snd ho) (by omega) ?_
    refine a_goto dL_separation_10 (tgt := 17) rfl ?_
    refine a_iconst dL_separation_17 ⟨by decide, by decide⟩ ?_
    exact a_iret dL_separation_18 rfl (by omega) (by omega) (Or.inl ⟨y, H9, q9, rfl, rfl⟩)
  · refine (show ∃ hp : Nat, CT G mL_separation 5 1 hp ∧ ∀ q : Nat, AW l G mL_separation (d + 1) mc ms (lQ o 1 vI (fun y => y) Q9) hp [vR x, vI p1, vI p2, vR o, vU] [vX q] (0 + mc) (0 + ms) H9 from ⟨13, ⟨[], ⟨0, 10, 13, 19⟩, [], rfl, rfl, rfl, by decide, wlk_19, fun y hy => absurd hy List.not_mem_nil⟩, fun q => ?_⟩)
    refine a_xstore dL_separation_13 (by decide) rfl ?_
    refine a_iconst dL_separation_15 ⟨by decide, by decide⟩ ?_
    exact a_iret dL_separation_16 rfl (by omega) (by omega) (Or.inr ⟨q9, rfl⟩)
theorem l_advance {l : Launch} {G : GT} {H : AH} {x o p1 : Int} {d mc ms : Nat} {Q9 : AV → AH → Prop} (hG : GX l G) (hx : hk H x = 6) (hQ : ∀ r H', Q9 r H' → ((∃ y, r = vI y) ∨ r = vT 0) ∧ H'.2.1 o = (13, 1)) (hc : CL l G mX7_advance d mc ms [vR x, vI p1] H Q9) : CLH l G mL_advance (d + 1) mc ms [vR x, vI p1, vR o] H (lQ o 0 vI (fun y => y) Q9) := by
  refine CLH.of (by decide) (Nat.le_of_ble_eq_true rfl) ?_
  show AW l G mL_advance (d + 1) mc ms _ 0 [vR x, vI p1, vR o, vU] [] 0 0 H
  refine a_aload_n dL_advance_0 rfl rfl ?_
  refine a_iconst dL_advance_1 ⟨by decide, by decide⟩ ?_
  refine a_aload_n dL_advance_2 rfl rfl ?_
  refine a_iload_n dL_advance_3 rfl rfl ?_
  refine a_callVH hG dL_advance_4 cw_L_advance_4 (as := [vI p1]) rfl rfl hx (Nat.le_refl _) (Nat.le_of_ble_eq_true rfl) (by omega) (by omega) (CL.mono hc ?_)
  intro r9 H9 q9
  obtain ⟨hr, ho⟩ := hQ r9 H9 q9
  rcases hr with ⟨y, rfl⟩ | rfl
  · show AW l G mL_advance (d + 1) mc ms _ 7 [vR x, vI p1, vR o, vU] [vI y, vI 0, vR o] (0 + mc) (0 + ms) H9
    refine a_i2l dL_advance_7 ?_
    refine b_last dL_advance_8 (congrArg Prod.fst ho) (congrArg Prod.snd ho) (by omega) ?_
    refine a_goto dL_advance_9 (tgt := 15) rfl ?_
    refine a_iconst dL_advance_15 ⟨by decide, by decide⟩ ?_
    exact a_iret dL_advance_16 rfl (by omega) (by omega) (Or.inl ⟨y, H9, q9, rfl, rfl⟩)
  · refine (show ∃ hp : Nat, CT G mL_advance 4 0 hp ∧ ∀ q : Nat, AW l G mL_advance (d + 1) mc ms (lQ o 0 vI (fun y => y) Q9) hp [vR x, vI p1, vR o, vU] [vX q] (0 + mc) (0 + ms) H9 from ⟨12, ⟨[], ⟨0, 9, 12, 13⟩, [], rfl, rfl, rfl, by decide, wlk_13, fun y hy => absurd hy List.not_mem_nil⟩, fun q => ?_⟩)
    refine a_xstore_n dL_advance_12 rfl (by decide) rfl ?_
    refine a_iconst dL_advance_13 ⟨by decide, by decide⟩ ?_
    exact a_iret dL_advance_14 rfl (by omega) (by omega) (Or.inr ⟨q9, rfl⟩)
theorem l_setShift {l : Launch} {G : GT} {H : AH} {x o p1 : Int} {d mc ms : Nat} {Q9 : AV → AH → Prop} (hG : GX l G) (hx : hk H x = 6) (hQ : ∀ r H', Q9 r H' → ((∃ y, r = vI y) ∨ r = vT 0) ∧ H'.2.1 o = (13, 1)) (hc : CL l G mX7_setShift d mc ms [vR x, vI p1] H Q9) : CLH l G mL_setShift (d + 1) mc ms [vR x, vI p1, vR o] H (lQ o 0 vI (fun y => y) Q9) := by
  refine CLH.of (by decide) (Nat.le_of_ble_eq_true rfl) ?_
  show AW l G mL_setShift (d + 1) mc ms _ 0 [vR x, vI p1, vR o, vU] [] 0 0 H
  refine a_aload_n dL_setShift_0 rfl rfl ?_
  refine a_iconst dL_setShift_1 ⟨by decide, by decide⟩ ?_
  refine a_aload_n dL_setShift_2 rfl rfl ?_
  refine a_iload_n dL_setShift_3 rfl rfl ?_
  refine a_callVH hG dL_setShift_4 cw_L_setShift_4 (as := [vI p1]) rfl rfl hx (Nat.le_refl _) (Nat.le_of_ble_eq_true rfl) (by omega) (by omega) (CL.mono hc ?_)
  intro r9 H9 q9
  obtain ⟨hr, ho⟩ := hQ r9 H9 q9
  rcases hr with ⟨y, rfl⟩ | rfl
  · show AW l G mL_setShift (d + 1) mc ms _ 7 [vR x, vI p1, vR o, vU] [vI y, vI 0, vR o] (0 + mc) (0 + ms) H9
    refine a_i2l dL_setShift_7 ?_
    refine b_last dL_setShift_8 (congrArg Prod.fst ho) (congrArg Prod.snd ho) (by omega) ?_
    refine a_goto dL_setShift_9 (tgt := 15) rfl ?_
    refine a_iconst dL_setShift_15 ⟨by decide, by decide⟩ ?_
    exact a_iret dL_setShift_16 rfl (by omega) (by omega) (Or.inl ⟨y, H9, q9, rfl, rfl⟩)
  · refine (show ∃ hp : Nat, CT G mL_setShift 4 0 hp ∧ ∀ q : Nat, AW l G mL_setShift (d + 1) mc ms (lQ o 0 vI (fun y => y) Q9) hp [vR x, vI p1, vR o, vU] [vX q] (0 + mc) (0 + ms) H9 from ⟨12, ⟨[], ⟨0, 9, 12, 13⟩, [], rfl, rfl, rfl, by decide, wlk_13, fun y hy => absurd hy List.not_mem_nil⟩, fun q => ?_⟩)
    refine a_xstore_n dL_setShift_12 rfl (by decide) rfl ?_
    refine a_iconst dL_setShift_13 ⟨by decide, by decide⟩ ?_
    exact a_iret dL_setShift_14 rfl (by omega) (by omega) (Or.inr ⟨q9, rfl⟩)
theorem l_setWake {l : Launch} {G : GT} {H : AH} {x o p1 p2 p3 : Int} {d mc ms : Nat} {Q9 : AV → AH → Prop} (hG : GX l G) (hx : hk H x = 6) (hQ : ∀ r H', Q9 r H' → ((∃ y, r = vI y) ∨ r = vT 0) ∧ H'.2.1 o = (13, 1)) (hc : CL l G mX7_setWake d mc ms [vR x, vI p1, vI p2, vI p3] H Q9) : CLH l G mL_setWake (d + 1) mc ms [vR x, vI p1, vI p2, vI p3, vR o] H (lQ o 0 vI (fun y => y) Q9) := by
  refine CLH.of (by decide) (Nat.le_of_ble_eq_true rfl) ?_
  show AW l G mL_setWake (d + 1) mc ms _ 0 [vR x, vI p1, vI p2, vI p3, vR o, vU] [] 0 0 H
  refine a_aload dL_setWake_0 rfl ?_
  refine a_iconst dL_setWake_2 ⟨by decide, by decide⟩ ?_
  refine a_aload_n dL_setWake_3 rfl rfl ?_
  refine a_iload_n dL_setWake_4 rfl rfl ?_
  refine a_iload_n dL_setWake_5 rfl rfl ?_
  refine a_iload_n dL_setWake_6 rfl rfl ?_
  refine a_callVH hG dL_setWake_7 cw_L_setWake_7 (as := [vI p1, vI p2, vI p3]) rfl rfl hx (Nat.le_refl _) (Nat.le_of_ble_eq_true rfl) (by omega) (by omega) (CL.mono hc ?_)
  intro r9 H9 q9
  obtain ⟨hr, ho⟩ := hQ r9 H9 q9
  rcases hr with ⟨y, rfl⟩ | rfl
  · show AW l G mL_setWake (d + 1) mc ms _ 10 [vR x, vI p1, vI p2, vI p3, vR o, vU] [vI y, vI 0, vR o] (0 + mc) (0 + ms) H9
    refine a_i2l dL_setWake_10 ?_
    refine b_last dL_setWake_11 (congrArg Prod.fst ho) (congrArg Prod.snd ho) (by omega) ?_
    refine a_goto dL_setWake_12 (tgt := 19) rfl ?_
    refine a_iconst dL_setWake_19 ⟨by decide, by decide⟩ ?_
    exact a_iret dL_setWake_20 rfl (by omega) (by omega) (Or.inl ⟨y, H9, q9, rfl, rfl⟩)
  · refine (show ∃ hp : Nat, CT G mL_setWake 7 0 hp ∧ ∀ q : Nat, AW l G mL_setWake (d + 1) mc ms (lQ o 0 vI (fun y => y) Q9) hp [vR x, vI p1, vI p2, vI p3, vR o, vU] [vX q] (0 + mc) (0 + ms) H9 from ⟨15, ⟨[], ⟨0, 12, 15, 13⟩, [], rfl, rfl, rfl, by decide, wlk_13, fun y hy => absurd hy List.not_mem_nil⟩, fun q => ?_⟩)
    refine a_xstore dL_setWake_15 (by decide) rfl ?_
    refine a_iconst dL_setWake_17 ⟨by decide, by decide⟩ ?_
    exact a_iret dL_setWake_18 rfl (by omega) (by omega) (Or.inr ⟨q9, rfl⟩)
theorem l_runwayOf {l : Launch} {G : GT} {H : AH} {x o p1 : Int} {d mc ms : Nat} {Q9 : AV → AH → Prop} (hG : GX l G) (hx : hk H x = 6) (hQ : ∀ r H', Q9 r H' → ((∃ y, r = vI y) ∨ r = vT 1) ∧ H'.2.1 o = (13, 1)) (hc : CL l G mX7_runwayOf d mc ms [vR x, vI p1] H Q9) : CLH l G mL_runwayOf (d + 1) mc ms [vR x, vI p1, vR o] H (lQ o 1 vI (fun y => y) Q9) := by
  refine CLH.of (by decide) (Nat.le_of_ble_eq_true rfl) ?_
  show AW l G mL_runwayOf (d + 1) mc ms _ 0 [vR x, vI p1, vR o, vU] [] 0 0 H
  refine a_aload_n dL_runwayOf_0 rfl rfl ?_
  refine a_iconst dL_runwayOf_1 ⟨by decide, by decide⟩ ?_
  refine a_aload_n dL_runwayOf_2 rfl rfl ?_
  refine a_iload_n dL_runwayOf_3 rfl rfl ?_
  refine a_callVH hG dL_runwayOf_4 cw_L_runwayOf_4 (as := [vI p1]) rfl rfl hx (Nat.le_refl _) (Nat.le_of_ble_eq_true rfl) (by omega) (by omega) (CL.mono hc ?_)
  intro r9 H9 q9
  obtain ⟨hr, ho⟩ := hQ r9 H9 q9
  rcases hr with ⟨y, rfl⟩ | rfl
  · show AW l G mL_runwayOf (d + 1) mc ms _ 7 [vR x, vI p1, vR o, vU] [vI y, vI 0, vR o] (0 + mc) (0 + ms) H9
    refine a_i2l dL_runwayOf_7 ?_
    refine b_last dL_runwayOf_8 (congrArg Prod.fst ho) (congrArg Prod.snd ho) (by omega) ?_
    refine a_goto dL_runwayOf_9 (tgt := 15) rfl ?_
    refine a_iconst dL_runwayOf_15 ⟨by decide, by decide⟩ ?_
    exact a_iret dL_runwayOf_16 rfl (by omega) (by omega) (Or.inl ⟨y, H9, q9, rfl, rfl⟩)
  · refine (show ∃ hp : Nat, CT G mL_runwayOf 4 1 hp ∧ ∀ q : Nat, AW l G mL_runwayOf (d + 1) mc ms (lQ o 1 vI (fun y => y) Q9) hp [vR x, vI p1, vR o, vU] [vX q] (0 + mc) (0 + ms) H9 from ⟨12, ⟨[], ⟨0, 9, 12, 19⟩, [], rfl, rfl, rfl, by decide, wlk_19, fun y hy => absurd hy List.not_mem_nil⟩, fun q => ?_⟩)
    refine a_xstore_n dL_runwayOf_12 rfl (by decide) rfl ?_
    refine a_iconst dL_runwayOf_13 ⟨by decide, by decide⟩ ?_
    exact a_iret dL_runwayOf_14 rfl (by omega) (by omega) (Or.inr ⟨q9, rfl⟩)
theorem l_assign {l : Launch} {G : GT} {H : AH} {x o p1 p2 : Int} {d mc ms : Nat} {Q9 : AV → AH → Prop} (hG : GX l G) (hx : hk H x = 6) (hQ : ∀ r H', Q9 r H' → ((∃ y, r = vI y) ∨ r = vT 1) ∧ H'.2.1 o = (13, 1)) (hc : CL l G mX7_assign d mc ms [vR x, vI p1, vI p2] H Q9) : CLH l G mL_assign (d + 1) mc ms [vR x, vI p1, vI p2, vR o] H (lQ o 1 vI (fun y => y) Q9) := by
  refine CLH.of (by decide) (Nat.le_of_ble_eq_true rfl) ?_
  show AW l G mL_assign (d + 1) mc ms _ 0 [vR x, vI p1, vI p2, vR o, vU] [] 0 0 H
  refine a_aload_n dL_assign_0 rfl rfl ?_
  refine a_iconst dL_assign_1 ⟨by decide, by decide⟩ ?_
  refine a_aload_n dL_assign_2 rfl rfl ?_
  refine a_iload_n dL_assign_3 rfl rfl ?_
  refine a_iload_n dL_assign_4 rfl rfl ?_
  refine a_callVH hG dL_assign_5 cw_L_assign_5 (as := [vI p1, vI p2]) rfl rfl hx (Nat.le_refl _) (Nat.le_of_ble_eq_true rfl) (by omega) (by omega) (CL.mono hc ?_)
  intro r9 H9 q9
  obtain ⟨hr, ho⟩ := hQ r9 H9 q9
  rcases hr with ⟨y, rfl⟩ | rfl
  · show AW l G mL_assign (d + 1) mc ms _ 8 [vR x, vI p1, vI p2, vR o, vU] [vI y, vI 0, vR o] (0 + mc) (0 + ms) H9
    refine a_i2l dL_assign_8 ?_
    refine b_last dL_assign_9 (congrArg Prod.fst ho) (congrArg Prod.snd ho) (by omega) ?_
    refine a_goto dL_assign_10 (tgt := 17) rfl ?_
    refine a_iconst dL_assign_17 ⟨by decide, by decide⟩ ?_
    exact a_iret dL_assign_18 rfl (by omega) (by omega) (Or.inl ⟨y, H9, q9, rfl, rfl⟩)
  · refine (show ∃ hp : Nat, CT G mL_assign 5 1 hp ∧ ∀ q : Nat, AW l G mL_assign (d + 1) mc ms (lQ o 1 vI (fun y => y) Q9) hp [vR x, vI p1, vI p2, vR o, vU] [vX q] (0 + mc) (0 + ms) H9 from ⟨13, ⟨[], ⟨0, 10, 13, 19⟩, [], rfl, rfl, rfl, by decide, wlk_19, fun y hy => absurd hy List.not_mem_nil⟩, fun q => ?_⟩)
    refine a_xstore dL_assign_13 (by decide) rfl ?_
    refine a_iconst dL_assign_15 ⟨by decide, by decide⟩ ?_
    exact a_iret dL_assign_16 rfl (by omega) (by omega) (Or.inr ⟨q9, rfl⟩)
theorem l_cancel {l : Launch} {G : GT} {H : AH} {x o p1 : Int} {d mc ms : Nat} {Q9 : AV → AH → Prop} (hG : GX l G) (hx : hk H x = 6) (hQ : ∀ r H', Q9 r H' → ((∃ y, r = vI y) ∨ r = vT 1) ∧ H'.2.1 o = (13, 1)) (hc : CL l G mX7_cancel d mc ms [vR x, vI p1] H Q9) : CLH l G mL_cancel (d + 1) mc ms [vR x, vI p1, vR o] H (lQ o 1 vI (fun y => y) Q9) := by
  refine CLH.of (by decide) (Nat.le_of_ble_eq_true rfl) ?_
  show AW l G mL_cancel (d + 1) mc ms _ 0 [vR x, vI p1, vR o, vU] [] 0 0 H
  refine a_aload_n dL_cancel_0 rfl rfl ?_
  refine a_iconst dL_cancel_1 ⟨by decide, by decide⟩ ?_
  refine a_aload_n dL_cancel_2 rfl rfl ?_
  refine a_iload_n dL_cancel_3 rfl rfl ?_
  refine a_callVH hG dL_cancel_4 cw_L_cancel_4 (as := [vI p1]) rfl rfl hx (Nat.le_refl _) (Nat.le_of_ble_eq_true rfl) (by omega) (by omega) (CL.mono hc ?_)
  intro r9 H9 q9
  obtain ⟨hr, ho⟩ := hQ r9 H9 q9
  rcases hr with ⟨y, rfl⟩ | rfl
  · show AW l G mL_cancel (d + 1) mc ms _ 7 [vR x, vI p1, vR o, vU] [vI y, vI 0, vR o] (0 + mc) (0 + ms) H9
    refine a_i2l dL_cancel_7 ?_
    refine b_last dL_cancel_8 (congrArg Prod.fst ho) (congrArg Prod.snd ho) (by omega) ?_
    refine a_goto dL_cancel_9 (tgt := 15) rfl ?_
    refine a_iconst dL_cancel_15 ⟨by decide, by decide⟩ ?_
    exact a_iret dL_cancel_16 rfl (by omega) (by omega) (Or.inl ⟨y, H9, q9, rfl, rfl⟩)
  · refine (show ∃ hp : Nat, CT G mL_cancel 4 1 hp ∧ ∀ q : Nat, AW l G mL_cancel (d + 1) mc ms (lQ o 1 vI (fun y => y) Q9) hp [vR x, vI p1, vR o, vU] [vX q] (0 + mc) (0 + ms) H9 from ⟨12, ⟨[], ⟨0, 9, 12, 19⟩, [], rfl, rfl, rfl, by decide, wlk_19, fun y hy => absurd hy List.not_mem_nil⟩, fun q => ?_⟩)
    refine a_xstore_n dL_cancel_12 rfl (by decide) rfl ?_
    refine a_iconst dL_cancel_13 ⟨by decide, by decide⟩ ?_
    exact a_iret dL_cancel_14 rfl (by omega) (by omega) (Or.inr ⟨q9, rfl⟩)
theorem l_goAround {l : Launch} {G : GT} {H : AH} {x o p1 : Int} {d mc ms : Nat} {Q9 : AV → AH → Prop} (hG : GX l G) (hx : hk H x = 6) (hQ : ∀ r H', Q9 r H' → ((∃ y, r = vI y) ∨ r = vT 1) ∧ H'.2.1 o = (13, 1)) (hc : CL l G mX7_goAround d mc ms [vR x, vI p1] H Q9) : CLH l G mL_goAround (d + 1) mc ms [vR x, vI p1, vR o] H (lQ o 1 vI (fun y => y) Q9) := by
  refine CLH.of (by decide) (Nat.le_of_ble_eq_true rfl) ?_
  show AW l G mL_goAround (d + 1) mc ms _ 0 [vR x, vI p1, vR o, vU] [] 0 0 H
  refine a_aload_n dL_goAround_0 rfl rfl ?_
  refine a_iconst dL_goAround_1 ⟨by decide, by decide⟩ ?_
  refine a_aload_n dL_goAround_2 rfl rfl ?_
  refine a_iload_n dL_goAround_3 rfl rfl ?_
  refine a_callVH hG dL_goAround_4 cw_L_goAround_4 (as := [vI p1]) rfl rfl hx (Nat.le_refl _) (Nat.le_of_ble_eq_true rfl) (by omega) (by omega) (CL.mono hc ?_)
  intro r9 H9 q9
  obtain ⟨hr, ho⟩ := hQ r9 H9 q9
  rcases hr with ⟨y, rfl⟩ | rfl
  · show AW l G mL_goAround (d + 1) mc ms _ 7 [vR x, vI p1, vR o, vU] [vI y, vI 0, vR o] (0 + mc) (0 + ms) H9
    refine a_i2l dL_goAround_7 ?_
    refine b_last dL_goAround_8 (congrArg Prod.fst ho) (congrArg Prod.snd ho) (by omega) ?_
    refine a_goto dL_goAround_9 (tgt := 15) rfl ?_
    refine a_iconst dL_goAround_15 ⟨by decide, by decide⟩ ?_
    exact a_iret dL_goAround_16 rfl (by omega) (by omega) (Or.inl ⟨y, H9, q9, rfl, rfl⟩)
  · refine (show ∃ hp : Nat, CT G mL_goAround 4 1 hp ∧ ∀ q : Nat, AW l G mL_goAround (d + 1) mc ms (lQ o 1 vI (fun y => y) Q9) hp [vR x, vI p1, vR o, vU] [vX q] (0 + mc) (0 + ms) H9 from ⟨12, ⟨[], ⟨0, 9, 12, 19⟩, [], rfl, rfl, rfl, by decide, wlk_19, fun y hy => absurd hy List.not_mem_nil⟩, fun q => ?_⟩)
    refine a_xstore_n dL_goAround_12 rfl (by decide) rfl ?_
    refine a_iconst dL_goAround_13 ⟨by decide, by decide⟩ ?_
    exact a_iret dL_goAround_14 rfl (by omega) (by omega) (Or.inr ⟨q9, rfl⟩)
theorem l_stateOf {l : Launch} {G : GT} {H : AH} {x o p1 : Int} {d mc ms : Nat} {Q9 : AV → AH → Prop} (hG : GX l G) (hx : hk H x = 6) (hQ : ∀ r H', Q9 r H' → ((∃ y, r = vI y) ∨ r = vT 1) ∧ H'.2.1 o = (13, 1)) (hc : CL l G mX7_stateOf d mc ms [vR x, vI p1] H Q9) : CLH l G mL_stateOf (d + 1) mc ms [vR x, vI p1, vR o] H (lQ o 1 vI (fun y => y) Q9) := by
  refine CLH.of (by decide) (Nat.le_of_ble_eq_true rfl) ?_
  show AW l G mL_stateOf (d + 1) mc ms _ 0 [vR x, vI p1, vR o, vU] [] 0 0 H
  refine a_aload_n dL_stateOf_0 rfl rfl ?_
  refine a_iconst dL_stateOf_1 ⟨by decide, by decide⟩ ?_
  refine a_aload_n dL_stateOf_2 rfl rfl ?_
  refine a_iload_n dL_stateOf_3 rfl rfl ?_
  refine a_callVH hG dL_stateOf_4 cw_L_stateOf_4 (as := [vI p1]) rfl rfl hx (Nat.le_refl _) (Nat.le_of_ble_eq_true rfl) (by omega) (by omega) (CL.mono hc ?_)
  intro r9 H9 q9
  obtain ⟨hr, ho⟩ := hQ r9 H9 q9
  rcases hr with ⟨y, rfl⟩ | rfl
  · show AW l G mL_stateOf (d + 1) mc ms _ 7 [vR x, vI p1, vR o, vU] [vI y, vI 0, vR o] (0 + mc) (0 + ms) H9
    refine a_i2l dL_stateOf_7 ?_
    refine b_last dL_stateOf_8 (congrArg Prod.fst ho) (congrArg Prod.snd ho) (by omega) ?_
    refine a_goto dL_stateOf_9 (tgt := 15) rfl ?_
    refine a_iconst dL_stateOf_15 ⟨by decide, by decide⟩ ?_
    exact a_iret dL_stateOf_16 rfl (by omega) (by omega) (Or.inl ⟨y, H9, q9, rfl, rfl⟩)
  · refine (show ∃ hp : Nat, CT G mL_stateOf 4 1 hp ∧ ∀ q : Nat, AW l G mL_stateOf (d + 1) mc ms (lQ o 1 vI (fun y => y) Q9) hp [vR x, vI p1, vR o, vU] [vX q] (0 + mc) (0 + ms) H9 from ⟨12, ⟨[], ⟨0, 9, 12, 19⟩, [], rfl, rfl, rfl, by decide, wlk_19, fun y hy => absurd hy List.not_mem_nil⟩, fun q => ?_⟩)
    refine a_xstore_n dL_stateOf_12 rfl (by decide) rfl ?_
    refine a_iconst dL_stateOf_13 ⟨by decide, by decide⟩ ?_
    exact a_iret dL_stateOf_14 rfl (by omega) (by omega) (Or.inr ⟨q9, rfl⟩)
theorem l_timeOf {l : Launch} {G : GT} {H : AH} {x o p1 : Int} {d mc ms : Nat} {Q9 : AV → AH → Prop} (hG : GX l G) (hx : hk H x = 6) (hQ : ∀ r H', Q9 r H' → ((∃ y, r = vI y) ∨ r = vT 1) ∧ H'.2.1 o = (13, 1)) (hc : CL l G mX7_timeOf d mc ms [vR x, vI p1] H Q9) : CLH l G mL_timeOf (d + 1) mc ms [vR x, vI p1, vR o] H (lQ o 1 vI (fun y => y) Q9) := by
  refine CLH.of (by decide) (Nat.le_of_ble_eq_true rfl) ?_
  show AW l G mL_timeOf (d + 1) mc ms _ 0 [vR x, vI p1, vR o, vU] [] 0 0 H
  refine a_aload_n dL_timeOf_0 rfl rfl ?_
  refine a_iconst dL_timeOf_1 ⟨by decide, by decide⟩ ?_
  refine a_aload_n dL_timeOf_2 rfl rfl ?_
  refine a_iload_n dL_timeOf_3 rfl rfl ?_
  refine a_callVH hG dL_timeOf_4 cw_L_timeOf_4 (as := [vI p1]) rfl rfl hx (Nat.le_refl _) (Nat.le_of_ble_eq_true rfl) (by omega) (by omega) (CL.mono hc ?_)
  intro r9 H9 q9
  obtain ⟨hr, ho⟩ := hQ r9 H9 q9
  rcases hr with ⟨y, rfl⟩ | rfl
  · show AW l G mL_timeOf (d + 1) mc ms _ 7 [vR x, vI p1, vR o, vU] [vI y, vI 0, vR o] (0 + mc) (0 + ms) H9
    refine a_i2l dL_timeOf_7 ?_
    refine b_last dL_timeOf_8 (congrArg Prod.fst ho) (congrArg Prod.snd ho) (by omega) ?_
    refine a_goto dL_timeOf_9 (tgt := 15) rfl ?_
    refine a_iconst dL_timeOf_15 ⟨by decide, by decide⟩ ?_
    exact a_iret dL_timeOf_16 rfl (by omega) (by omega) (Or.inl ⟨y, H9, q9, rfl, rfl⟩)
  · refine (show ∃ hp : Nat, CT G mL_timeOf 4 1 hp ∧ ∀ q : Nat, AW l G mL_timeOf (d + 1) mc ms (lQ o 1 vI (fun y => y) Q9) hp [vR x, vI p1, vR o, vU] [vX q] (0 + mc) (0 + ms) H9 from ⟨12, ⟨[], ⟨0, 9, 12, 19⟩, [], rfl, rfl, rfl, by decide, wlk_19, fun y hy => absurd hy List.not_mem_nil⟩, fun q => ?_⟩)
    refine a_xstore_n dL_timeOf_12 rfl (by decide) rfl ?_
    refine a_iconst dL_timeOf_13 ⟨by decide, by decide⟩ ?_
    exact a_iret dL_timeOf_14 rfl (by omega) (by omega) (Or.inr ⟨q9, rfl⟩)
theorem l_placeOf {l : Launch} {G : GT} {H : AH} {x o p1 : Int} {d mc ms : Nat} {Q9 : AV → AH → Prop} (hG : GX l G) (hx : hk H x = 6) (hQ : ∀ r H', Q9 r H' → ((∃ y, r = vI y) ∨ r = vT 1) ∧ H'.2.1 o = (13, 1)) (hc : CL l G mX7_placeOf d mc ms [vR x, vI p1] H Q9) : CLH l G mL_placeOf (d + 1) mc ms [vR x, vI p1, vR o] H (lQ o 1 vI (fun y => y) Q9) := by
  refine CLH.of (by decide) (Nat.le_of_ble_eq_true rfl) ?_
  show AW l G mL_placeOf (d + 1) mc ms _ 0 [vR x, vI p1, vR o, vU] [] 0 0 H
  refine a_aload_n dL_placeOf_0 rfl rfl ?_
  refine a_iconst dL_placeOf_1 ⟨by decide, by decide⟩ ?_
  refine a_aload_n dL_placeOf_2 rfl rfl ?_
  refine a_iload_n dL_placeOf_3 rfl rfl ?_
  refine a_callVH hG dL_placeOf_4 cw_L_placeOf_4 (as := [vI p1]) rfl rfl hx (Nat.le_refl _) (Nat.le_of_ble_eq_true rfl) (by omega) (by omega) (CL.mono hc ?_)
  intro r9 H9 q9
  obtain ⟨hr, ho⟩ := hQ r9 H9 q9
  rcases hr with ⟨y, rfl⟩ | rfl
  · show AW l G mL_placeOf (d + 1) mc ms _ 7 [vR x, vI p1, vR o, vU] [vI y, vI 0, vR o] (0 + mc) (0 + ms) H9
    refine a_i2l dL_placeOf_7 ?_
    refine b_last dL_placeOf_8 (congrArg Prod.fst ho) (congrArg Prod.snd ho) (by omega) ?_
    refine a_goto dL_placeOf_9 (tgt := 15) rfl ?_
    refine a_iconst dL_placeOf_15 ⟨by decide, by decide⟩ ?_
    exact a_iret dL_placeOf_16 rfl (by omega) (by omega) (Or.inl ⟨y, H9, q9, rfl, rfl⟩)
  · refine (show ∃ hp : Nat, CT G mL_placeOf 4 1 hp ∧ ∀ q : Nat, AW l G mL_placeOf (d + 1) mc ms (lQ o 1 vI (fun y => y) Q9) hp [vR x, vI p1, vR o, vU] [vX q] (0 + mc) (0 + ms) H9 from ⟨12, ⟨[], ⟨0, 9, 12, 19⟩, [], rfl, rfl, rfl, by decide, wlk_19, fun y hy => absurd hy List.not_mem_nil⟩, fun q => ?_⟩)
    refine a_xstore_n dL_placeOf_12 rfl (by decide) rfl ?_
    refine a_iconst dL_placeOf_13 ⟨by decide, by decide⟩ ?_
    exact a_iret dL_placeOf_14 rfl (by omega) (by omega) (Or.inr ⟨q9, rfl⟩)
theorem l_firstComePlace {l : Launch} {G : GT} {H : AH} {x o p1 : Int} {d mc ms : Nat} {Q9 : AV → AH → Prop} (hG : GX l G) (hx : hk H x = 6) (hQ : ∀ r H', Q9 r H' → ((∃ y, r = vI y) ∨ r = vT 1) ∧ H'.2.1 o = (13, 1)) (hc : CL l G mX7_firstComePlace d mc ms [vR x, vI p1] H Q9) : CLH l G mL_firstComePlace (d + 1) mc ms [vR x, vI p1, vR o] H (lQ o 1 vI (fun y => y) Q9) := by
  refine CLH.of (by decide) (Nat.le_of_ble_eq_true rfl) ?_
  show AW l G mL_firstComePlace (d + 1) mc ms _ 0 [vR x, vI p1, vR o, vU] [] 0 0 H
  refine a_aload_n dL_firstComePlace_0 rfl rfl ?_
  refine a_iconst dL_firstComePlace_1 ⟨by decide, by decide⟩ ?_
  refine a_aload_n dL_firstComePlace_2 rfl rfl ?_
  refine a_iload_n dL_firstComePlace_3 rfl rfl ?_
  refine a_callVH hG dL_firstComePlace_4 cw_L_firstComePlace_4 (as := [vI p1]) rfl rfl hx (Nat.le_refl _) (Nat.le_of_ble_eq_true rfl) (by omega) (by omega) (CL.mono hc ?_)
  intro r9 H9 q9
  obtain ⟨hr, ho⟩ := hQ r9 H9 q9
  rcases hr with ⟨y, rfl⟩ | rfl
  · show AW l G mL_firstComePlace (d + 1) mc ms _ 7 [vR x, vI p1, vR o, vU] [vI y, vI 0, vR o] (0 + mc) (0 + ms) H9
    refine a_i2l dL_firstComePlace_7 ?_
    refine b_last dL_firstComePlace_8 (congrArg Prod.fst ho) (congrArg Prod.snd ho) (by omega) ?_
    refine a_goto dL_firstComePlace_9 (tgt := 15) rfl ?_
    refine a_iconst dL_firstComePlace_15 ⟨by decide, by decide⟩ ?_
    exact a_iret dL_firstComePlace_16 rfl (by omega) (by omega) (Or.inl ⟨y, H9, q9, rfl, rfl⟩)
  · refine (show ∃ hp : Nat, CT G mL_firstComePlace 4 1 hp ∧ ∀ q : Nat, AW l G mL_firstComePlace (d + 1) mc ms (lQ o 1 vI (fun y => y) Q9) hp [vR x, vI p1, vR o, vU] [vX q] (0 + mc) (0 + ms) H9 from ⟨12, ⟨[], ⟨0, 9, 12, 19⟩, [], rfl, rfl, rfl, by decide, wlk_19, fun y hy => absurd hy List.not_mem_nil⟩, fun q => ?_⟩)
    refine a_xstore_n dL_firstComePlace_12 rfl (by decide) rfl ?_
    refine a_iconst dL_firstComePlace_13 ⟨by decide, by decide⟩ ?_
    exact a_iret dL_firstComePlace_14 rfl (by omega) (by omega) (Or.inr ⟨q9, rfl⟩)
