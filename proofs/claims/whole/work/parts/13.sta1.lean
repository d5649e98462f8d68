theorem dX6_gapOf_0 : decode cX6_gapOf 0 = .ok (.aload_n 0, 1) := by decide +kernel
theorem dX6_gapOf_1 : decode cX6_gapOf 1 = .ok (.getfield 21, 3) := by decide +kernel
theorem dX6_gapOf_4 : decode cX6_gapOf 4 = .ok (.getfield 97, 3) := by decide +kernel
theorem dX6_gapOf_7 : decode cX6_gapOf 7 = .ok (.iload_n 1, 1) := by decide +kernel
theorem dX6_gapOf_8 : decode cX6_gapOf 8 = .ok (.baload, 1) := by decide +kernel
theorem dX6_gapOf_9 : decode cX6_gapOf 9 = .ok (.aload_n 0, 1) := by decide +kernel
theorem dX6_gapOf_10 : decode cX6_gapOf 10 = .ok (.getfield 21, 3) := by decide +kernel
theorem dX6_gapOf_13 : decode cX6_gapOf 13 = .ok (.getfield 97, 3) := by decide +kernel
theorem dX6_gapOf_16 : decode cX6_gapOf 16 = .ok (.iload_n 2, 1) := by decide +kernel
theorem dX6_gapOf_17 : decode cX6_gapOf 17 = .ok (.baload, 1) := by decide +kernel
theorem dX6_gapOf_18 : decode cX6_gapOf 18 = .ok (.if_icmp .eq 11, 3) := by decide +kernel
theorem dX6_gapOf_21 : decode cX6_gapOf 21 = .ok (.aload_n 0, 1) := by decide +kernel
theorem dX6_gapOf_22 : decode cX6_gapOf 22 = .ok (.getfield 12, 3) := by decide +kernel
theorem dX6_gapOf_25 : decode cX6_gapOf 25 = .ok (.getfield 100, 3) := by decide +kernel
theorem dX6_gapOf_28 : decode cX6_gapOf 28 = .ok (.ireturn, 1) := by decide +kernel
theorem dX6_gapOf_29 : decode cX6_gapOf 29 = .ok (.aload_n 0, 1) := by decide +kernel
theorem dX6_gapOf_30 : decode cX6_gapOf 30 = .ok (.getfield 12, 3) := by decide +kernel
theorem dX6_gapOf_33 : decode cX6_gapOf 33 = .ok (.getfield 103, 3) := by decide +kernel
theorem dX6_gapOf_36 : decode cX6_gapOf 36 = .ok (.aload_n 0, 1) := by decide +kernel
theorem dX6_gapOf_37 : decode cX6_gapOf 37 = .ok (.getfield 21, 3) := by decide +kernel
theorem dX6_gapOf_40 : decode cX6_gapOf 40 = .ok (.getfield 106, 3) := by decide +kernel
theorem dX6_gapOf_43 : decode cX6_gapOf 43 = .ok (.iload_n 1, 1) := by decide +kernel
theorem dX6_gapOf_44 : decode cX6_gapOf 44 = .ok (.iaload, 1) := by decide +kernel
theorem dX6_gapOf_45 : decode cX6_gapOf 45 = .ok (.iconst 4, 1) := by decide +kernel
theorem dX6_gapOf_46 : decode cX6_gapOf 46 = .ok (.imul, 1) := by decide +kernel
theorem dX6_gapOf_47 : decode cX6_gapOf 47 = .ok (.aload_n 0, 1) := by decide +kernel
theorem dX6_gapOf_48 : decode cX6_gapOf 48 = .ok (.getfield 21, 3) := by decide +kernel
theorem dX6_gapOf_51 : decode cX6_gapOf 51 = .ok (.getfield 106, 3) := by decide +kernel
theorem dX6_gapOf_54 : decode cX6_gapOf 54 = .ok (.iload_n 2, 1) := by decide +kernel
theorem dX6_gapOf_55 : decode cX6_gapOf 55 = .ok (.iaload, 1) := by decide +kernel
theorem dX6_gapOf_56 : decode cX6_gapOf 56 = .ok (.iadd, 1) := by decide +kernel
theorem dX6_gapOf_57 : decode cX6_gapOf 57 = .ok (.iaload, 1) := by decide +kernel
theorem dX6_gapOf_58 : decode cX6_gapOf 58 = .ok (.ireturn, 1) := by decide +kernel
theorem dX6_costAt_0 : decode cX6_costAt 0 = .ok (.aload_n 0, 1) := by decide +kernel
theorem dX6_costAt_1 : decode cX6_costAt 1 = .ok (.getfield 21, 3) := by decide +kernel
theorem dX6_costAt_4 : decode cX6_costAt 4 = .ok (.getfield 106, 3) := by decide +kernel
theorem dX6_costAt_7 : decode cX6_costAt 7 = .ok (.iload_n 1, 1) := by decide +kernel
theorem dX6_costAt_8 : decode cX6_costAt 8 = .ok (.iaload, 1) := by decide +kernel
theorem dX6_costAt_9 : decode cX6_costAt 9 = .ok (.istore_n 3, 1) := by decide +kernel
theorem dX6_costAt_10 : decode cX6_costAt 10 = .ok (.aload_n 0, 1) := by decide +kernel
theorem dX6_costAt_11 : decode cX6_costAt 11 = .ok (.getfield 21, 3) := by decide +kernel
theorem dX6_costAt_14 : decode cX6_costAt 14 = .ok (.getfield 109, 3) := by decide +kernel
theorem dX6_costAt_17 : decode cX6_costAt 17 = .ok (.iload_n 1, 1) := by decide +kernel
theorem dX6_costAt_18 : decode cX6_costAt 18 = .ok (.iaload, 1) := by decide +kernel
theorem dX6_costAt_19 : decode cX6_costAt 19 = .ok (.iload_n 2, 1) := by decide +kernel
theorem dX6_costAt_20 : decode cX6_costAt 20 = .ok (.isub, 1) := by decide +kernel
theorem dX6_costAt_21 : decode cX6_costAt 21 = .ok (.istore 4, 2) := by decide +kernel
theorem dX6_costAt_23 : decode cX6_costAt 23 = .ok (.iload 4, 2) := by decide +kernel
theorem dX6_costAt_25 : decode cX6_costAt 25 = .ok (.ifCond .le 20, 3) := by decide +kernel
theorem dX6_costAt_28 : decode cX6_costAt 28 = .ok (.aload_n 0, 1) := by decide +kernel
theorem dX6_costAt_29 : decode cX6_costAt 29 = .ok (.getfield 12, 3) := by decide +kernel
theorem dX6_costAt_32 : decode cX6_costAt 32 = .ok (.getfield 112, 3) := by decide +kernel
theorem dX6_costAt_35 : decode cX6_costAt 35 = .ok (.iload_n 3, 1) := by decide +kernel
theorem dX6_costAt_36 : decode cX6_costAt 36 = .ok (.iaload, 1) := by decide +kernel
theorem dX6_costAt_37 : decode cX6_costAt 37 = .ok (.i2l, 1) := by decide +kernel
theorem dX6_costAt_38 : decode cX6_costAt 38 = .ok (.iload 4, 2) := by decide +kernel
theorem dX6_costAt_40 : decode cX6_costAt 40 = .ok (.i2l, 1) := by decide +kernel
theorem dX6_costAt_41 : decode cX6_costAt 41 = .ok (.lmul, 1) := by decide +kernel
theorem dX6_costAt_42 : decode cX6_costAt 42 = .ok (.goto 18, 3) := by decide +kernel
theorem dX6_costAt_45 : decode cX6_costAt 45 = .ok (.aload_n 0, 1) := by decide +kernel
theorem dX6_costAt_46 : decode cX6_costAt 46 = .ok (.getfield 12, 3) := by decide +kernel
theorem dX6_costAt_49 : decode cX6_costAt 49 = .ok (.getfield 115, 3) := by decide +kernel
theorem dX6_costAt_52 : decode cX6_costAt 52 = .ok (.iload_n 3, 1) := by decide +kernel
theorem dX6_costAt_53 : decode cX6_costAt 53 = .ok (.iaload, 1) := by decide +kernel
theorem dX6_costAt_54 : decode cX6_costAt 54 = .ok (.i2l, 1) := by decide +kernel
theorem dX6_costAt_55 : decode cX6_costAt 55 = .ok (.iload 4, 2) := by decide +kernel
theorem dX6_costAt_57 : decode cX6_costAt 57 = .ok (.ineg, 1) := by decide +kernel
theorem dX6_costAt_58 : decode cX6_costAt 58 = .ok (.i2l, 1) := by decide +kernel
theorem dX6_costAt_59 : decode cX6_costAt 59 = .ok (.lmul, 1) := by decide +kernel
theorem dX6_costAt_60 : decode cX6_costAt 60 = .ok (.lstore 5, 2) := by decide +kernel
theorem dX6_costAt_62 : decode cX6_costAt 62 = .ok (.iload_n 2, 1) := by decide +kernel
theorem dX6_costAt_63 : decode cX6_costAt 63 = .ok (.aload_n 0, 1) := by decide +kernel
theorem dX6_costAt_64 : decode cX6_costAt 64 = .ok (.getfield 21, 3) := by decide +kernel
theorem dX6_costAt_67 : decode cX6_costAt 67 = .ok (.getfield 118, 3) := by decide +kernel
theorem dX6_costAt_70 : decode cX6_costAt 70 = .ok (.iload_n 1, 1) := by decide +kernel
theorem dX6_costAt_71 : decode cX6_costAt 71 = .ok (.iaload, 1) := by decide +kernel
theorem dX6_costAt_72 : decode cX6_costAt 72 = .ok (.if_icmp .le 12, 3) := by decide +kernel
theorem dX6_costAt_75 : decode cX6_costAt 75 = .ok (.lload 5, 2) := by decide +kernel
theorem dX6_costAt_77 : decode cX6_costAt 77 = .ok (.ldc2_w 121, 3) := by decide +kernel
theorem dX6_costAt_80 : decode cX6_costAt 80 = .ok (.ladd, 1) := by decide +kernel
theorem dX6_costAt_81 : decode cX6_costAt 81 = .ok (.goto 5, 3) := by decide +kernel
theorem dX6_costAt_84 : decode cX6_costAt 84 = .ok (.lload 5, 2) := by decide +kernel
theorem dX6_costAt_86 : decode cX6_costAt 86 = .ok (.lreturn, 1) := by decide +kernel
theorem dX6_isFixed_0 : decode cX6_isFixed 0 = .ok (.aload_n 0, 1) := by decide +kernel
theorem dX6_isFixed_1 : decode cX6_isFixed 1 = .ok (.getfield 29, 3) := by decide +kernel
theorem dX6_isFixed_4 : decode cX6_isFixed 4 = .ok (.iload_n 1, 1) := by decide +kernel
theorem dX6_isFixed_5 : decode cX6_isFixed 5 = .ok (.iaload, 1) := by decide +kernel
theorem dX6_isFixed_6 : decode cX6_isFixed 6 = .ok (.iconst 1, 1) := by decide +kernel
theorem dX6_isFixed_7 : decode cX6_isFixed 7 = .ok (.if_icmp .eq 13, 3) := by decide +kernel
theorem dX6_isFixed_10 : decode cX6_isFixed 10 = .ok (.aload_n 0, 1) := by decide +kernel
theorem dX6_isFixed_11 : decode cX6_isFixed 11 = .ok (.getfield 29, 3) := by decide +kernel
theorem dX6_isFixed_14 : decode cX6_isFixed 14 = .ok (.iload_n 1, 1) := by decide +kernel
theorem dX6_isFixed_15 : decode cX6_isFixed 15 = .ok (.iaload, 1) := by decide +kernel
theorem dX6_isFixed_16 : decode cX6_isFixed 16 = .ok (.iconst 2, 1) := by decide +kernel
theorem dX6_isFixed_17 : decode cX6_isFixed 17 = .ok (.if_icmp .ne 7, 3) := by decide +kernel
theorem dX6_isFixed_20 : decode cX6_isFixed 20 = .ok (.iconst 1, 1) := by decide +kernel
theorem dX6_isFixed_21 : decode cX6_isFixed 21 = .ok (.goto 4, 3) := by decide +kernel
theorem dX6_isFixed_24 : decode cX6_isFixed 24 = .ok (.iconst 0, 1) := by decide +kernel
theorem dX6_isFixed_25 : decode cX6_isFixed 25 = .ok (.ireturn, 1) := by decide +kernel
theorem dX6_countIn_0 : decode cX6_countIn 0 = .ok (.iconst 0, 1) := by decide +kernel
theorem dX6_countIn_1 : decode cX6_countIn 1 = .ok (.istore_n 2, 1) := by decide +kernel
theorem dX6_countIn_2 : decode cX6_countIn 2 = .ok (.iconst 0, 1) := by decide +kernel
theorem dX6_countIn_3 : decode cX6_countIn 3 = .ok (.istore_n 3, 1) := by decide +kernel
theorem dX6_countIn_4 : decode cX6_countIn 4 = .ok (.iload_n 3, 1) := by decide +kernel
theorem dX6_countIn_5 : decode cX6_countIn 5 = .ok (.aload_n 0, 1) := by decide +kernel
theorem dX6_countIn_6 : decode cX6_countIn 6 = .ok (.getfield 21, 3) := by decide +kernel
theorem dX6_countIn_9 : decode cX6_countIn 9 = .ok (.getfield 57, 3) := by decide +kernel
theorem dX6_countIn_12 : decode cX6_countIn 12 = .ok (.if_icmp .ge 22, 3) := by decide +kernel
theorem dX6_countIn_15 : decode cX6_countIn 15 = .ok (.aload_n 0, 1) := by decide +kernel
theorem dX6_countIn_16 : decode cX6_countIn 16 = .ok (.getfield 29, 3) := by decide +kernel
theorem dX6_countIn_19 : decode cX6_countIn 19 = .ok (.iload_n 3, 1) := by decide +kernel
theorem dX6_countIn_20 : decode cX6_countIn 20 = .ok (.iaload, 1) := by decide +kernel
theorem dX6_countIn_21 : decode cX6_countIn 21 = .ok (.iload_n 1, 1) := by decide +kernel
theorem dX6_countIn_22 : decode cX6_countIn 22 = .ok (.if_icmp .ne 6, 3) := by decide +kernel
theorem dX6_countIn_25 : decode cX6_countIn 25 = .ok (.iinc 2 1, 3) := by decide +kernel
theorem dX6_countIn_28 : decode cX6_countIn 28 = .ok (.iinc 3 1, 3) := by decide +kernel
theorem dX6_countIn_31 : decode cX6_countIn 31 = .ok (.goto (-27), 3) := by decide +kernel
theorem dX6_countIn_34 : decode cX6_countIn 34 = .ok (.iload_n 2, 1) := by decide +kernel
theorem dX6_countIn_35 : decode cX6_countIn 35 = .ok (.ireturn, 1) := by decide +kernel
theorem dX6_countLate_0 : decode cX6_countLate 0 = .ok (.iconst 0, 1) := by decide +kernel
theorem dX6_countLate_1 : decode cX6_countLate 1 = .ok (.istore_n 1, 1) := by decide +kernel
theorem dX6_countLate_2 : decode cX6_countLate 2 = .ok (.iconst 0, 1) := by decide +kernel
theorem dX6_countLate_3 : decode cX6_countLate 3 = .ok (.istore_n 2, 1) := by decide +kernel
theorem dX6_countLate_4 : decode cX6_countLate 4 = .ok (.iload_n 2, 1) := by decide +kernel
theorem dX6_countLate_5 : decode cX6_countLate 5 = .ok (.aload_n 0, 1) := by decide +kernel
theorem dX6_countLate_6 : decode cX6_countLate 6 = .ok (.getfield 21, 3) := by decide +kernel
theorem dX6_countLate_9 : decode cX6_countLate 9 = .ok (.getfield 57, 3) := by decide +kernel
theorem dX6_countLate_12 : decode cX6_countLate 12 = .ok (.if_icmp .ge 40, 3) := by decide +kernel
theorem dX6_countLate_15 : decode cX6_countLate 15 = .ok (.aload_n 0, 1) := by decide +kernel
theorem dX6_countLate_16 : decode cX6_countLate 16 = .ok (.getfield 29, 3) := by decide +kernel
theorem dX6_countLate_19 : decode cX6_countLate 19 = .ok (.iload_n 2, 1) := by decide +kernel
theorem dX6_countLate_20 : decode cX6_countLate 20 = .ok (.iaload, 1) := by decide +kernel
theorem dX6_countLate_21 : decode cX6_countLate 21 = .ok (.iconst 3, 1) := by decide +kernel
theorem dX6_countLate_22 : decode cX6_countLate 22 = .ok (.if_icmp .eq 24, 3) := by decide +kernel
theorem dX6_countLate_25 : decode cX6_countLate 25 = .ok (.aload_n 0, 1) := by decide +kernel
theorem dX6_countLate_26 : decode cX6_countLate 26 = .ok (.getfield 32, 3) := by decide +kernel
theorem dX6_countLate_29 : decode cX6_countLate 29 = .ok (.iload_n 2, 1) := by decide +kernel
theorem dX6_countLate_30 : decode cX6_countLate 30 = .ok (.iaload, 1) := by decide +kernel
theorem dX6_countLate_31 : decode cX6_countLate 31 = .ok (.aload_n 0, 1) := by decide +kernel
theorem dX6_countLate_32 : decode cX6_countLate 32 = .ok (.getfield 21, 3) := by decide +kernel
theorem dX6_countLate_35 : decode cX6_countLate 35 = .ok (.getfield 118, 3) := by decide +kernel
theorem dX6_countLate_38 : decode cX6_countLate 38 = .ok (.iload_n 2, 1) := by decide +kernel
theorem dX6_countLate_39 : decode cX6_countLate 39 = .ok (.iaload, 1) := by decide +kernel
theorem dX6_countLate_40 : decode cX6_countLate 40 = .ok (.if_icmp .le 6, 3) := by decide +kernel
theorem dX6_countLate_43 : decode cX6_countLate 43 = .ok (.iinc 1 1, 3) := by decide +kernel
theorem dX6_countLate_46 : decode cX6_countLate 46 = .ok (.iinc 2 1, 3) := by decide +kernel
theorem dX6_countLate_49 : decode cX6_countLate 49 = .ok (.goto (-45), 3) := by decide +kernel
theorem dX6_countLate_52 : decode cX6_countLate 52 = .ok (.iload_n 1, 1) := by decide +kernel
theorem dX6_countLate_53 : decode cX6_countLate 53 = .ok (.ireturn, 1) := by decide +kernel
theorem dX6_placeIn_0 : decode cX6_placeIn 0 = .ok (.aload_n 0, 1) := by decide +kernel
theorem dX6_placeIn_1 : decode cX6_placeIn 1 = .ok (.getfield 25, 3) := by decide +kernel
theorem dX6_placeIn_4 : decode cX6_placeIn 4 = .ok (.iload_n 1, 1) := by decide +kernel
theorem dX6_placeIn_5 : decode cX6_placeIn 5 = .ok (.iaload, 1) := by decide +kernel
theorem dX6_placeIn_6 : decode cX6_placeIn 6 = .ok (.bipush 24, 2) := by decide +kernel
theorem dX6_placeIn_8 : decode cX6_placeIn 8 = .ok (.imul, 1) := by decide +kernel
theorem dX6_placeIn_9 : decode cX6_placeIn 9 = .ok (.istore_n 2, 1) := by decide +kernel
theorem dX6_placeIn_10 : decode cX6_placeIn 10 = .ok (.iconst 0, 1) := by decide +kernel
theorem dX6_placeIn_11 : decode cX6_placeIn 11 = .ok (.istore_n 3, 1) := by decide +kernel
theorem dX6_placeIn_12 : decode cX6_placeIn 12 = .ok (.iload_n 3, 1) := by decide +kernel
theorem dX6_placeIn_13 : decode cX6_placeIn 13 = .ok (.aload_n 0, 1) := by decide +kernel
theorem dX6_placeIn_14 : decode cX6_placeIn 14 = .ok (.getfield 44, 3) := by decide +kernel
theorem dX6_placeIn_17 : decode cX6_placeIn 17 = .ok (.aload_n 0, 1) := by decide +kernel
theorem dX6_placeIn_18 : decode cX6_placeIn 18 = .ok (.getfield 25, 3) := by decide +kernel
theorem dX6_placeIn_21 : decode cX6_placeIn 21 = .ok (.iload_n 1, 1) := by decide +kernel
theorem dX6_placeIn_22 : decode cX6_placeIn 22 = .ok (.iaload, 1) := by decide +kernel
theorem dX6_placeIn_23 : decode cX6_placeIn 23 = .ok (.iaload, 1) := by decide +kernel
theorem dX6_placeIn_24 : decode cX6_placeIn 24 = .ok (.if_icmp .ge 23, 3) := by decide +kernel
theorem dX6_placeIn_27 : decode cX6_placeIn 27 = .ok (.aload_n 0, 1) := by decide +kernel
theorem dX6_placeIn_28 : decode cX6_placeIn 28 = .ok (.getfield 41, 3) := by decide +kernel
theorem dX6_placeIn_31 : decode cX6_placeIn 31 = .ok (.iload_n 2, 1) := by decide +kernel
theorem dX6_placeIn_32 : decode cX6_placeIn 32 = .ok (.iload_n 3, 1) := by decide +kernel
theorem dX6_placeIn_33 : decode cX6_placeIn 33 = .ok (.iadd, 1) := by decide +kernel
theorem dX6_placeIn_34 : decode cX6_placeIn 34 = .ok (.iaload, 1) := by decide +kernel
theorem dX6_placeIn_35 : decode cX6_placeIn 35 = .ok (.iload_n 1, 1) := by decide +kernel
theorem dX6_placeIn_36 : decode cX6_placeIn 36 = .ok (.if_icmp .ne 5, 3) := by decide +kernel
theorem dX6_placeIn_39 : decode cX6_placeIn 39 = .ok (.iload_n 3, 1) := by decide +kernel
theorem dX6_placeIn_40 : decode cX6_placeIn 40 = .ok (.ireturn, 1) := by decide +kernel
theorem dX6_placeIn_41 : decode cX6_placeIn 41 = .ok (.iinc 3 1, 3) := by decide +kernel
theorem dX6_placeIn_44 : decode cX6_placeIn 44 = .ok (.goto (-32), 3) := by decide +kernel
theorem dX6_placeIn_47 : decode cX6_placeIn 47 = .ok (.iconst (-1), 1) := by decide +kernel
theorem dX6_placeIn_48 : decode cX6_placeIn 48 = .ok (.ireturn, 1) := by decide +kernel
set_option maxRecDepth 20000 in
theorem s_X6_gapOf_0 {l : Launch} {G : GT} {d : Nat} {Q : AV → AH → Prop} {H : AH} {a0 x1 x2 : Int} (h_r0 : Lay LSta H a0) (h : (0 ≤ x1 ∧ x1 < 24) ∧ (0 ≤ x2 ∧ x2 < 24) ∧ ((hg H (a0 + 8) x1) = (hg H (a0 + 8) x2) → (-2147483648 ≤ (hg H (a0 + 9) x1) * 4 ∧ (hg H (a0 + 9) x1) * 4 ≤ 2147483647) ∧ (-2147483648 ≤ ((hg H (a0 + 9) x1) * 4) + (hg H (a0 + 9) x2) ∧ ((hg H (a0 + 9) x1) * 4) + (hg H (a0 + 9) x2) ≤ 2147483647) ∧ (0 ≤ (((hg H (a0 + 9) x1) * 4) + (hg H (a0 + 9) x2)) ∧ (((hg H (a0 + 9) x1) * 4) + (hg H (a0 + 9) x2)) < 16) ∧ Q (vI (hg H (a0 + 2) (((hg H (a0 + 9) x1) * 4) + (hg H (a0 + 9) x2)))) H) ∧ (¬ (hg H (a0 + 8) x1) = (hg H (a0 + 8) x2) → Q (vI (hg H (a0 + 1) 1)) H)) : AW l G mX6_gapOf d 0 0 Q 0 [vR a0, vI x1, vI x2] [] 0 0 H := by
  refine a_aload_n dX6_gapOf_0 rfl rfl ?_
  refine a_getR dX6_gapOf_1 fw_RX6_21 rfl rfl (kSta_0 h_r0) (rSta_0_1 h_r0) ?_
  refine a_getR dX6_gapOf_4 fw_RX6_97 rfl rfl (kSta_5 h_r0) (rSta_5_3 h_r0) ?_
  refine a_iload_n dX6_gapOf_7 rfl rfl ?_
  obtain ⟨q8_0, h⟩ := h
  refine b_zald dX6_gapOf_8 (kSta_8 h_r0) (nSta_8 h_r0) q8_0 ?_
  refine a_aload_n dX6_gapOf_9 rfl rfl ?_
  refine a_getR dX6_gapOf_10 fw_RX6_21 rfl rfl (kSta_0 h_r0) (rSta_0_1 h_r0) ?_
  refine a_getR dX6_gapOf_13 fw_RX6_97 rfl rfl (kSta_5 h_r0) (rSta_5_3 h_r0) ?_
  refine a_iload_n dX6_gapOf_16 rfl rfl ?_
  obtain ⟨q17_0, h⟩ := h
  refine b_zald dX6_gapOf_17 (kSta_8 h_r0) (nSta_8 h_r0) q17_0 ?_
  refine a_icmp_eq dX6_gapOf_18 (tgt := 29) rfl (fun c18 => ?_) (fun c18 => ?_)
  · replace h := h.1 c18
    refine a_aload_n dX6_gapOf_29 rfl rfl ?_
    refine a_getR dX6_gapOf_30 fw_RX6_12 rfl rfl (kSta_0 h_r0) (rSta_0_0 h_r0) ?_
    refine a_getR dX6_gapOf_33 fw_RX6_103 rfl rfl (kSta_1 h_r0) (rSta_1_5 h_r0) ?_
    refine a_aload_n dX6_gapOf_36 rfl rfl ?_
    refine a_getR dX6_gapOf_37 fw_RX6_21 rfl rfl (kSta_0 h_r0) (rSta_0_1 h_r0) ?_
    refine a_getR dX6_gapOf_40 fw_RX6_106 rfl rfl (kSta_5 h_r0) (rSta_5_4 h_r0) ?_
    refine a_iload_n dX6_gapOf_43 rfl rfl ?_
    refine b_iald dX6_gapOf_44 (kSta_9 h_r0) (nSta_9 h_r0) q8_0 ?_
    refine a_iconst dX6_gapOf_45 ⟨by decide, by decide⟩ ?_
    obtain ⟨q46_0, h⟩ := h
    refine a_imul dX6_gapOf_46 q46_0 ?_
    refine a_aload_n dX6_gapOf_47 rfl rfl ?_
    refine a_getR dX6_gapOf_48 fw_RX6_21 rfl rfl (kSta_0 h_r0) (rSta_0_1 h_r0) ?_
    refine a_getR dX6_gapOf_51 fw_RX6_106 rfl rfl (kSta_5 h_r0) (rSta_5_4 h_r0) ?_
    refine a_iload_n dX6_gapOf_54 rfl rfl ?_
    refine b_iald dX6_gapOf_55 (kSta_9 h_r0) (nSta_9 h_r0) q17_0 ?_
    obtain ⟨q56_0, h⟩ := h
    refine a_iadd dX6_gapOf_56 q56_0 ?_
    obtain ⟨q57_0, h⟩ := h
    refine b_iald dX6_gapOf_57 (kSta_2 h_r0) (nSta_2 h_r0) q57_0 ?_
    exact a_iret dX6_gapOf_58 rfl (Nat.le_of_ble_eq_true rfl) (Nat.le_of_ble_eq_true rfl) h
  · replace h := h.2 c18
    refine a_aload_n dX6_gapOf_21 rfl rfl ?_
    refine a_getR dX6_gapOf_22 fw_RX6_12 rfl rfl (kSta_0 h_r0) (rSta_0_0 h_r0) ?_
    refine a_getI dX6_gapOf_25 fw_RX6_100 rfl rfl (kSta_1 h_r0) ?_
    exact a_iret dX6_gapOf_28 rfl (Nat.le_of_ble_eq_true rfl) (Nat.le_of_ble_eq_true rfl) h

set_option maxRecDepth 20000 in
theorem s_X6_costAt_0 {l : Launch} {G : GT} {d : Nat} {Q : AV → AH → Prop} {H : AH} {a0 x1 x2 : Int} (h_r0 : Lay LSta H a0) (h : (0 ≤ x1 ∧ x1 < 24) ∧ (-2147483648 ≤ (hg H (a0 + 11) x1) - x2 ∧ (hg H (a0 + 11) x1) - x2 ≤ 2147483647) ∧ (((hg H (a0 + 11) x1) - x2) ≤ 0 → (0 ≤ (hg H (a0 + 9) x1) ∧ (hg H (a0 + 9) x1) < 4) ∧ (-2147483648 ≤ -((hg H (a0 + 11) x1) - x2) ∧ -((hg H (a0 + 11) x1) - x2) ≤ 2147483647) ∧ (-9223372036854775808 ≤ (hg H (a0 + 4) (hg H (a0 + 9) x1)) * (-((hg H (a0 + 11) x1) - x2)) ∧ (hg H (a0 + 4) (hg H (a0 + 9) x1)) * (-((hg H (a0 + 11) x1) - x2)) ≤ 9223372036854775807) ∧ (x2 ≤ (hg H (a0 + 12) x1) → Q (vJ ((hg H (a0 + 4) (hg H (a0 + 9) x1)) * (-((hg H (a0 + 11) x1) - x2)))) H) ∧ ((hg H (a0 + 12) x1) < x2 → (-9223372036854775808 ≤ ((hg H (a0 + 4) (hg H (a0 + 9) x1)) * (-((hg H (a0 + 11) x1) - x2))) + 1000000000 ∧ ((hg H (a0 + 4) (hg H (a0 + 9) x1)) * (-((hg H (a0 + 11) x1) - x2))) + 1000000000 ≤ 9223372036854775807) ∧ Q (vJ (((hg H (a0 + 4) (hg H (a0 + 9) x1)) * (-((hg H (a0 + 11) x1) - x2))) + 1000000000)) H)) ∧ (0 < ((hg H (a0 + 11) x1) - x2) → (0 ≤ (hg H (a0 + 9) x1) ∧ (hg H (a0 + 9) x1) < 4) ∧ (-9223372036854775808 ≤ (hg H (a0 + 3) (hg H (a0 + 9) x1)) * ((hg H (a0 + 11) x1) - x2) ∧ (hg H (a0 + 3) (hg H (a0 + 9) x1)) * ((hg H (a0 + 11) x1) - x2) ≤ 9223372036854775807) ∧ (x2 ≤ (hg H (a0 + 12) x1) → Q (vJ ((hg H (a0 + 3) (hg H (a0 + 9) x1)) * ((hg H (a0 + 11) x1) - x2))) H) ∧ ((hg H (a0 + 12) x1) < x2 → (-9223372036854775808 ≤ ((hg H (a0 + 3) (hg H (a0 + 9) x1)) * ((hg H (a0 + 11) x1) - x2)) + 1000000000 ∧ ((hg H (a0 + 3) (hg H (a0 + 9) x1)) * ((hg H (a0 + 11) x1) - x2)) + 1000000000 ≤ 9223372036854775807) ∧ Q (vJ (((hg H (a0 + 3) (hg H (a0 + 9) x1)) * ((hg H (a0 + 11) x1) - x2)) + 1000000000)) H))) : AW l G mX6_costAt d 0 0 Q 0 [vR a0, vI x1, vI x2, vU, vU, vU, vU] [] 0 0 H := by
  refine a_aload_n dX6_costAt_0 rfl rfl ?_
  refine a_getR dX6_costAt_1 fw_RX6_21 rfl rfl (kSta_0 h_r0) (rSta_0_1 h_r0) ?_
  refine a_getR dX6_costAt_4 fw_RX6_106 rfl rfl (kSta_5 h_r0) (rSta_5_4 h_r0) ?_
  refine a_iload_n dX6_costAt_7 rfl rfl ?_
  obtain ⟨q8_0, h⟩ := h
  refine b_iald dX6_costAt_8 (kSta_9 h_r0) (nSta_9 h_r0) q8_0 ?_
  refine a_istore_n dX6_costAt_9 rfl (Nat.le_of_ble_eq_true rfl) rfl ?_
  refine a_aload_n dX6_costAt_10 rfl rfl ?_
  refine a_getR dX6_costAt_11 fw_RX6_21 rfl rfl (kSta_0 h_r0) (rSta_0_1 h_r0) ?_
  refine a_getR dX6_costAt_14 fw_RX6_109 rfl rfl (kSta_5 h_r0) (rSta_5_6 h_r0) ?_
  refine a_iload_n dX6_costAt_17 rfl rfl ?_
  refine b_iald dX6_costAt_18 (kSta_11 h_r0) (nSta_11 h_r0) q8_0 ?_
  refine a_iload_n dX6_costAt_19 rfl rfl ?_
  obtain ⟨q20_0, h⟩ := h
  refine a_isub dX6_costAt_20 q20_0 ?_
  refine a_istore dX6_costAt_21 (Nat.le_of_ble_eq_true rfl) rfl ?_
  refine a_iload dX6_costAt_23 rfl ?_
  refine a_if_le dX6_costAt_25 (tgt := 45) rfl (fun c25 => ?_) (fun c25 => ?_)
  · replace h := h.1 c25
    refine a_aload_n dX6_costAt_45 rfl rfl ?_
    refine a_getR dX6_costAt_46 fw_RX6_12 rfl rfl (kSta_0 h_r0) (rSta_0_0 h_r0) ?_
    refine a_getR dX6_costAt_49 fw_RX6_115 rfl rfl (kSta_1 h_r0) (rSta_1_7 h_r0) ?_
    refine a_iload_n dX6_costAt_52 rfl rfl ?_
    obtain ⟨q53_0, h⟩ := h
    refine b_iald dX6_costAt_53 (kSta_4 h_r0) (nSta_4 h_r0) q53_0 ?_
    refine a_i2l dX6_costAt_54 ?_
    refine a_iload dX6_costAt_55 rfl ?_
    obtain ⟨q57_0, h⟩ := h
    refine a_ineg dX6_costAt_57 q57_0 ?_
    refine a_i2l dX6_costAt_58 ?_
    obtain ⟨q59_0, h⟩ := h
    refine a_lmul dX6_costAt_59 q59_0 ?_
    refine a_lstore dX6_costAt_60 (Nat.le_of_ble_eq_true rfl) rfl ?_
    refine a_iload_n dX6_costAt_62 rfl rfl ?_
    refine a_aload_n dX6_costAt_63 rfl rfl ?_
    refine a_getR dX6_costAt_64 fw_RX6_21 rfl rfl (kSta_0 h_r0) (rSta_0_1 h_r0) ?_
    refine a_getR dX6_costAt_67 fw_RX6_118 rfl rfl (kSta_5 h_r0) (rSta_5_7 h_r0) ?_
    refine a_iload_n dX6_costAt_70 rfl rfl ?_
    refine b_iald dX6_costAt_71 (kSta_12 h_r0) (nSta_12 h_r0) q8_0 ?_
    refine a_icmp_le dX6_costAt_72 (tgt := 84) rfl (fun c72 => ?_) (fun c72 => ?_)
    · replace h := h.1 c72
      refine a_lload dX6_costAt_84 rfl ?_
      exact a_lret dX6_costAt_86 rfl (Nat.le_of_ble_eq_true rfl) (Nat.le_of_ble_eq_true rfl) h
    · replace h := h.2 c72
      refine a_lload dX6_costAt_75 rfl ?_
      refine a_ldc2 dX6_costAt_77 (w_632) ?_
      show AW l G mX6_costAt d 0 0 Q 80 [vR a0, vI x1, vI x2, vI (hg H (a0 + 9) x1), vI ((hg H (a0 + 11) x1) - x2), vJ ((hg H (a0 + 4) (hg H (a0 + 9) x1)) * (-((hg H (a0 + 11) x1) - x2))), vU] [vJ 1000000000, vJ ((hg H (a0 + 4) (hg H (a0 + 9) x1)) * (-((hg H (a0 + 11) x1) - x2)))] 0 0 H
      obtain ⟨q80_0, h⟩ := h
      refine a_ladd dX6_costAt_80 q80_0 ?_
      refine a_goto dX6_costAt_81 (tgt := 86) rfl ?_
      exact a_lret dX6_costAt_86 rfl (Nat.le_of_ble_eq_true rfl) (Nat.le_of_ble_eq_true rfl) h
  · replace h := h.2 c25
    refine a_aload_n dX6_costAt_28 rfl rfl ?_
    refine a_getR dX6_costAt_29 fw_RX6_12 rfl rfl (kSta_0 h_r0) (rSta_0_0 h_r0) ?_
    refine a_getR dX6_costAt_32 fw_RX6_112 rfl rfl (kSta_1 h_r0) (rSta_1_6 h_r0) ?_
    refine a_iload_n dX6_costAt_35 rfl rfl ?_
    obtain ⟨q36_0, h⟩ := h
    refine b_iald dX6_costAt_36 (kSta_3 h_r0) (nSta_3 h_r0) q36_0 ?_
    refine a_i2l dX6_costAt_37 ?_
    refine a_iload dX6_costAt_38 rfl ?_
    refine a_i2l dX6_costAt_40 ?_
    obtain ⟨q41_0, h⟩ := h
    refine a_lmul dX6_costAt_41 q41_0 ?_
    refine a_goto dX6_costAt_42 (tgt := 60) rfl ?_
    refine a_lstore dX6_costAt_60 (Nat.le_of_ble_eq_true rfl) rfl ?_
    refine a_iload_n dX6_costAt_62 rfl rfl ?_
    refine a_aload_n dX6_costAt_63 rfl rfl ?_
    refine a_getR dX6_costAt_64 fw_RX6_21 rfl rfl (kSta_0 h_r0) (rSta_0_1 h_r0) ?_
    refine a_getR dX6_costAt_67 fw_RX6_118 rfl rfl (kSta_5 h_r0) (rSta_5_7 h_r0) ?_
    refine a_iload_n dX6_costAt_70 rfl rfl ?_
    refine b_iald dX6_costAt_71 (kSta_12 h_r0) (nSta_12 h_r0) q8_0 ?_
    refine a_icmp_le dX6_costAt_72 (tgt := 84) rfl (fun c72 => ?_) (fun c72 => ?_)
    · replace h := h.1 c72
      refine a_lload dX6_costAt_84 rfl ?_
      exact a_lret dX6_costAt_86 rfl (Nat.le_of_ble_eq_true rfl) (Nat.le_of_ble_eq_true rfl) h
    · replace h := h.2 c72
      refine a_lload dX6_costAt_75 rfl ?_
      refine a_ldc2 dX6_costAt_77 (w_632) ?_
      show AW l G mX6_costAt d 0 0 Q 80 [vR a0, vI x1, vI x2, vI (hg H (a0 + 9) x1), vI ((hg H (a0 + 11) x1) - x2), vJ ((hg H (a0 + 3) (hg H (a0 + 9) x1)) * ((hg H (a0 + 11) x1) - x2)), vU] [vJ 1000000000, vJ ((hg H (a0 + 3) (hg H (a0 + 9) x1)) * ((hg H (a0 + 11) x1) - x2))] 0 0 H
      obtain ⟨q80_0, h⟩ := h
      refine a_ladd dX6_costAt_80 q80_0 ?_
      refine a_goto dX6_costAt_81 (tgt := 86) rfl ?_
      exact a_lret dX6_costAt_86 rfl (Nat.le_of_ble_eq_true rfl) (Nat.le_of_ble_eq_true rfl) h

set_option maxRecDepth 20000 in
theorem s_X6_isFixed_0 {l : Launch} {G : GT} {d : Nat} {Q : AV → AH → Prop} {H : AH} {a0 x1 : Int} (h_r0 : Lay LSta H a0) (h : (0 ≤ x1 ∧ x1 < 24) ∧ ((hg H (a0 + 15) x1) = 1 → Q (vI 1) H) ∧ (¬ (hg H (a0 + 15) x1) = 1 → (¬ (hg H (a0 + 15) x1) = 2 → Q (vI 0) H) ∧ ((hg H (a0 + 15) x1) = 2 → Q (vI 1) H))) : AW l G mX6_isFixed d 0 0 Q 0 [vR a0, vI x1] [] 0 0 H := by
  refine a_aload_n dX6_isFixed_0 rfl rfl ?_
  refine a_getR dX6_isFixed_1 fw_RX6_29 rfl rfl (kSta_0 h_r0) (rSta_0_4 h_r0) ?_
  refine a_iload_n dX6_isFixed_4 rfl rfl ?_
  obtain ⟨q5_0, h⟩ := h
  refine b_iald dX6_isFixed_5 (kSta_15 h_r0) (nSta_15 h_r0) q5_0 ?_
  refine a_iconst dX6_isFixed_6 ⟨by decide, by decide⟩ ?_
  refine a_icmp_eq dX6_isFixed_7 (tgt := 20) rfl (fun c7 => ?_) (fun c7 => ?_)
  · replace h := h.1 c7
    refine a_iconst dX6_isFixed_20 ⟨by decide, by decide⟩ ?_
    refine a_goto dX6_isFixed_21 (tgt := 25) rfl ?_
    exact a_zret dX6_isFixed_25 rfl (by decide) (Nat.le_of_ble_eq_true rfl) (Nat.le_of_ble_eq_true rfl) h
  · replace h := h.2 c7
    refine a_aload_n dX6_isFixed_10 rfl rfl ?_
    refine a_getR dX6_isFixed_11 fw_RX6_29 rfl rfl (kSta_0 h_r0) (rSta_0_4 h_r0) ?_
    refine a_iload_n dX6_isFixed_14 rfl rfl ?_
    refine b_iald dX6_isFixed_15 (kSta_15 h_r0) (nSta_15 h_r0) q5_0 ?_
    refine a_iconst dX6_isFixed_16 ⟨by decide, by decide⟩ ?_
    refine a_icmp_ne dX6_isFixed_17 (tgt := 24) rfl (fun c17 => ?_) (fun c17 => ?_)
    · replace h := h.1 c17
      refine a_iconst dX6_isFixed_24 ⟨by decide, by decide⟩ ?_
      exact a_zret dX6_isFixed_25 rfl (by decide) (Nat.le_of_ble_eq_true rfl) (Nat.le_of_ble_eq_true rfl) h
    · replace h := h.2 c17
      refine a_iconst dX6_isFixed_20 ⟨by decide, by decide⟩ ?_
      refine a_goto dX6_isFixed_21 (tgt := 25) rfl ?_
      exact a_zret dX6_isFixed_25 rfl (by decide) (Nat.le_of_ble_eq_true rfl) (Nat.le_of_ble_eq_true rfl) h

set_option maxRecDepth 20000 in
theorem s_X6_countIn_0 {l : Launch} {G : GT} {d : Nat} {Q : AV → AH → Prop} {H : AH} {a0 x1 : Int} (h_r0 : Lay LSta H a0) (h : AW l G mX6_countIn d 0 0 Q 4 [vR a0, vI x1, vI 0, vI 0] [] 0 0 H) : AW l G mX6_countIn d 0 0 Q 0 [vR a0, vI x1, vU, vU] [] 0 0 H := by
  refine a_iconst dX6_countIn_0 ⟨by decide, by decide⟩ ?_
  refine a_istore_n dX6_countIn_1 rfl (Nat.le_of_ble_eq_true rfl) rfl ?_
  refine a_iconst dX6_countIn_2 ⟨by decide, by decide⟩ ?_
  refine a_istore_n dX6_countIn_3 rfl (Nat.le_of_ble_eq_true rfl) rfl ?_
  exact h

set_option maxRecDepth 20000 in
theorem s_X6_countIn_4 {l : Launch} {G : GT} {d : Nat} {Q : AV → AH → Prop} {H : AH} {a0 x1 x2 x3 : Int} (h_r0 : Lay LSta H a0) (h : ((hg H (a0 + 5) 0) ≤ x3 → Q (vI x2) H) ∧ (x3 < (hg H (a0 + 5) 0) → (0 ≤ x3 ∧ x3 < 24) ∧ (¬ (hg H (a0 + 15) x3) = x1 → (-2147483648 ≤ x3 + 1 ∧ x3 + 1 ≤ 2147483647) ∧ AW l G mX6_countIn d 0 0 Q 4 [vR a0, vI x1, vI x2, vI (x3 + 1)] [] 0 0 H) ∧ ((hg H (a0 + 15) x3) = x1 → (-2147483648 ≤ x2 + 1 ∧ x2 + 1 ≤ 2147483647) ∧ (-2147483648 ≤ x3 + 1 ∧ x3 + 1 ≤ 2147483647) ∧ AW l G mX6_countIn d 0 0 Q 4 [vR a0, vI x1, vI (x2 + 1), vI (x3 + 1)] [] 0 0 H))) : AW l G mX6_countIn d 0 0 Q 4 [vR a0, vI x1, vI x2, vI x3] [] 0 0 H := by
  refine a_iload_n dX6_countIn_4 rfl rfl ?_
  refine a_aload_n dX6_countIn_5 rfl rfl ?_
  refine a_getR dX6_countIn_6 fw_RX6_21 rfl rfl (kSta_0 h_r0) (rSta_0_1 h_r0) ?_
  refine a_getI dX6_countIn_9 fw_RX6_57 rfl rfl (kSta_5 h_r0) ?_
  refine a_icmp_ge dX6_countIn_12 (tgt := 34) rfl (fun c12 => ?_) (fun c12 => ?_)
  · replace h := h.1 c12
    refine a_iload_n dX6_countIn_34 rfl rfl ?_
    exact a_iret dX6_countIn_35 rfl (Nat.le_of_ble_eq_true rfl) (Nat.le_of_ble_eq_true rfl) h
  · replace h := h.2 c12
    refine a_aload_n dX6_countIn_15 rfl rfl ?_
    refine a_getR dX6_countIn_16 fw_RX6_29 rfl rfl (kSta_0 h_r0) (rSta_0_4 h_r0) ?_
    refine a_iload_n dX6_countIn_19 rfl rfl ?_
    obtain ⟨q20_0, h⟩ := h
    refine b_iald dX6_countIn_20 (kSta_15 h_r0) (nSta_15 h_r0) q20_0 ?_
    refine a_iload_n dX6_countIn_21 rfl rfl ?_
    refine a_icmp_ne dX6_countIn_22 (tgt := 28) rfl (fun c22 => ?_) (fun c22 => ?_)
    · replace h := h.1 c22
      obtain ⟨q28_0, h⟩ := h
      refine a_iinc dX6_countIn_28 rfl (Nat.le_of_ble_eq_true rfl) (by decide) q28_0 rfl ?_
      refine a_goto dX6_countIn_31 (tgt := 4) rfl ?_
      exact h
    · replace h := h.2 c22
      obtain ⟨q25_0, h⟩ := h
      refine a_iinc dX6_countIn_25 rfl (Nat.le_of_ble_eq_true rfl) (by decide) q25_0 rfl ?_
      obtain ⟨q28_0, h⟩ := h
      refine a_iinc dX6_countIn_28 rfl (Nat.le_of_ble_eq_true rfl) (by decide) q28_0 rfl ?_
      refine a_goto dX6_countIn_31 (tgt := 4) rfl ?_
      exact h

set_option maxRecDepth 20000 in
theorem s_X6_countLate_0 {l : Launch} {G : GT} {d : Nat} {Q : AV → AH → Prop} {H : AH} {a0 : Int} (h_r0 : Lay LSta H a0) (h : AW l G mX6_countLate d 0 0 Q 4 [vR a0, vI 0, vI 0] [] 0 0 H) : AW l G mX6_countLate d 0 0 Q 0 [vR a0, vU, vU] [] 0 0 H := by
  refine a_iconst dX6_countLate_0 ⟨by decide, by decide⟩ ?_
  refine a_istore_n dX6_countLate_1 rfl (Nat.le_of_ble_eq_true rfl) rfl ?_
  refine a_iconst dX6_countLate_2 ⟨by decide, by decide⟩ ?_
  refine a_istore_n dX6_countLate_3 rfl (Nat.le_of_ble_eq_true rfl) rfl ?_
  exact h

set_option maxRecDepth 20000 in
theorem s_X6_countLate_4 {l : Launch} {G : GT} {d : Nat} {Q : AV → AH → Prop} {H : AH} {a0 x1 x2 : Int} (h_r0 : Lay LSta H a0) (h : ((hg H (a0 + 5) 0) ≤ x2 → Q (vI x1) H) ∧ (x2 < (hg H (a0 + 5) 0) → (0 ≤ x2 ∧ x2 < 24) ∧ ((hg H (a0 + 15) x2) = 3 → (-2147483648 ≤ x2 + 1 ∧ x2 + 1 ≤ 2147483647) ∧ AW l G mX6_countLate d 0 0 Q 4 [vR a0, vI x1, vI (x2 + 1)] [] 0 0 H) ∧ (¬ (hg H (a0 + 15) x2) = 3 → ((hg H (a0 + 16) x2) ≤ (hg H (a0 + 12) x2) → (-2147483648 ≤ x2 + 1 ∧ x2 + 1 ≤ 2147483647) ∧ AW l G mX6_countLate d 0 0 Q 4 [vR a0, vI x1, vI (x2 + 1)] [] 0 0 H) ∧ ((hg H (a0 + 12) x2) < (hg H (a0 + 16) x2) → (-2147483648 ≤ x1 + 1 ∧ x1 + 1 ≤ 2147483647) ∧ (-2147483648 ≤ x2 + 1 ∧ x2 + 1 ≤ 2147483647) ∧ AW l G mX6_countLate d 0 0 Q 4 [vR a0, vI (x1 + 1), vI (x2 + 1)] [] 0 0 H)))) : AW l G mX6_countLate d 0 0 Q 4 [vR a0, vI x1, vI x2] [] 0 0 H := by
  refine a_iload_n dX6_countLate_4 rfl rfl ?_
  refine a_aload_n dX6_countLate_5 rfl rfl ?_
  refine a_getR dX6_countLate_6 fw_RX6_21 rfl rfl (kSta_0 h_r0) (rSta_0_1 h_r0) ?_
  refine a_getI dX6_countLate_9 fw_RX6_57 rfl rfl (kSta_5 h_r0) ?_
  refine a_icmp_ge dX6_countLate_12 (tgt := 52) rfl (fun c12 => ?_) (fun c12 => ?_)
  · replace h := h.1 c12
    refine a_iload_n dX6_countLate_52 rfl rfl ?_
    exact a_iret dX6_countLate_53 rfl (Nat.le_of_ble_eq_true rfl) (Nat.le_of_ble_eq_true rfl) h
  · replace h := h.2 c12
    refine a_aload_n dX6_countLate_15 rfl rfl ?_
    refine a_getR dX6_countLate_16 fw_RX6_29 rfl rfl (kSta_0 h_r0) (rSta_0_4 h_r0) ?_
    refine a_iload_n dX6_countLate_19 rfl rfl ?_
    obtain ⟨q20_0, h⟩ := h
    refine b_iald dX6_countLate_20 (kSta_15 h_r0) (nSta_15 h_r0) q20_0 ?_
    refine a_iconst dX6_countLate_21 ⟨by decide, by decide⟩ ?_
    refine a_icmp_eq dX6_countLate_22 (tgt := 46) rfl (fun c22 => ?_) (fun c22 => ?_)
    · replace h := h.1 c22
      obtain ⟨q46_0, h⟩ := h
      refine a_iinc dX6_countLate_46 rfl (Nat.le_of_ble_eq_true rfl) (by decide) q46_0 rfl ?_
      refine a_goto dX6_countLate_49 (tgt := 4) rfl ?_
      exact h
    · replace h := h.2 c22
      refine a_aload_n dX6_countLate_25 rfl rfl ?_
      refine a_getR dX6_countLate_26 fw_RX6_32 rfl rfl (kSta_0 h_r0) (rSta_0_5 h_r0) ?_
      refine a_iload_n dX6_countLate_29 rfl rfl ?_
      refine b_iald dX6_countLate_30 (kSta_16 h_r0) (nSta_16 h_r0) q20_0 ?_
      refine a_aload_n dX6_countLate_31 rfl rfl ?_
      refine a_getR dX6_countLate_32 fw_RX6_21 rfl rfl (kSta_0 h_r0) (rSta_0_1 h_r0) ?_
      refine a_getR dX6_countLate_35 fw_RX6_118 rfl rfl (kSta_5 h_r0) (rSta_5_7 h_r0) ?_
      refine a_iload_n dX6_countLate_38 rfl rfl ?_
      refine b_iald dX6_countLate_39 (kSta_12 h_r0) (nSta_12 h_r0) q20_0 ?_
      refine a_icmp_le dX6_countLate_40 (tgt := 46) rfl (fun c40 => ?_) (fun c40 => ?_)
      · replace h := h.1 c40
        obtain ⟨q46_0, h⟩ := h
        refine a_iinc dX6_countLate_46 rfl (Nat.le_of_ble_eq_true rfl) (by decide) q46_0 rfl ?_
        refine a_goto dX6_countLate_49 (tgt := 4) rfl ?_
        exact h
      · replace h := h.2 c40
        obtain ⟨q43_0, h⟩ := h
        refine a_iinc dX6_countLate_43 rfl (Nat.le_of_ble_eq_true rfl) (by decide) q43_0 rfl ?_
        obtain ⟨q46_0, h⟩ := h
        refine a_iinc dX6_countLate_46 rfl (Nat.le_of_ble_eq_true rfl) (by decide) q46_0 rfl ?_
        refine a_goto dX6_countLate_49 (tgt := 4) rfl ?_
        exact h

set_option maxRecDepth 20000 in
theorem s_X6_placeIn_0 {l : Launch} {G : GT} {d : Nat} {Q : AV → AH → Prop} {H : AH} {a0 x1 : Int} (h_r0 : Lay LSta H a0) (h : (0 ≤ x1 ∧ x1 < 24) ∧ (-2147483648 ≤ (hg H (a0 + 14) x1) * 24 ∧ (hg H (a0 + 14) x1) * 24 ≤ 2147483647) ∧ AW l G mX6_placeIn d 0 0 Q 12 [vR a0, vI x1, vI ((hg H (a0 + 14) x1) * 24), vI 0] [] 0 0 H) : AW l G mX6_placeIn d 0 0 Q 0 [vR a0, vI x1, vU, vU] [] 0 0 H := by
  refine a_aload_n dX6_placeIn_0 rfl rfl ?_
  refine a_getR dX6_placeIn_1 fw_RX6_25 rfl rfl (kSta_0 h_r0) (rSta_0_3 h_r0) ?_
  refine a_iload_n dX6_placeIn_4 rfl rfl ?_
  obtain ⟨q5_0, h⟩ := h
  refine b_iald dX6_placeIn_5 (kSta_14 h_r0) (nSta_14 h_r0) q5_0 ?_
  refine a_bipush dX6_placeIn_6 (by decide) ?_
  obtain ⟨q8_0, h⟩ := h
  refine a_imul dX6_placeIn_8 q8_0 ?_
  refine a_istore_n dX6_placeIn_9 rfl (Nat.le_of_ble_eq_true rfl) rfl ?_
  refine a_iconst dX6_placeIn_10 ⟨by decide, by decide⟩ ?_
  refine a_istore_n dX6_placeIn_11 rfl (Nat.le_of_ble_eq_true rfl) rfl ?_
  exact h

set_option maxRecDepth 20000 in
theorem s_X6_placeIn_12 {l : Launch} {G : GT} {d : Nat} {Q : AV → AH → Prop} {H : AH} {a0 x1 x2 x3 : Int} (h_r0 : Lay LSta H a0) (h : (0 ≤ x1 ∧ x1 < 24) ∧ (0 ≤ (hg H (a0 + 14) x1) ∧ (hg H (a0 + 14) x1) < 3) ∧ ((hg H (a0 + 20) (hg H (a0 + 14) x1)) ≤ x3 → Q (vI (-1)) H) ∧ (x3 < (hg H (a0 + 20) (hg H (a0 + 14) x1)) → (-2147483648 ≤ x2 + x3 ∧ x2 + x3 ≤ 2147483647) ∧ (0 ≤ (x2 + x3) ∧ (x2 + x3) < 72) ∧ (¬ (hg H (a0 + 19) (x2 + x3)) = x1 → (-2147483648 ≤ x3 + 1 ∧ x3 + 1 ≤ 2147483647) ∧ AW l G mX6_placeIn d 0 0 Q 12 [vR a0, vI x1, vI x2, vI (x3 + 1)] [] 0 0 H) ∧ ((hg H (a0 + 19) (x2 + x3)) = x1 → Q (vI x3) H))) : AW l G mX6_placeIn d 0 0 Q 12 [vR a0, vI x1, vI x2, vI x3] [] 0 0 H := by
  refine a_iload_n dX6_placeIn_12 rfl rfl ?_
  refine a_aload_n dX6_placeIn_13 rfl rfl ?_
  refine a_getR dX6_placeIn_14 fw_RX6_44 rfl rfl (kSta_0 h_r0) (rSta_0_10 h_r0) ?_
  refine a_aload_n dX6_placeIn_17 rfl rfl ?_
  refine a_getR dX6_placeIn_18 fw_RX6_25 rfl rfl (kSta_0 h_r0) (rSta_0_3 h_r0) ?_
  refine a_iload_n dX6_placeIn_21 rfl rfl ?_
  obtain ⟨q22_0, h⟩ := h
  refine b_iald dX6_placeIn_22 (kSta_14 h_r0) (nSta_14 h_r0) q22_0 ?_
  obtain ⟨q23_0, h⟩ := h
  refine b_iald dX6_placeIn_23 (kSta_20 h_r0) (nSta_20 h_r0) q23_0 ?_
  refine a_icmp_ge dX6_placeIn_24 (tgt := 47) rfl (fun c24 => ?_) (fun c24 => ?_)
  · replace h := h.1 c24
    refine a_iconst dX6_placeIn_47 ⟨by decide, by decide⟩ ?_
    exact a_iret dX6_placeIn_48 rfl (Nat.le_of_ble_eq_true rfl) (Nat.le_of_ble_eq_true rfl) h
  · replace h := h.2 c24
    refine a_aload_n dX6_placeIn_27 rfl rfl ?_
    refine a_getR dX6_placeIn_28 fw_RX6_41 rfl rfl (kSta_0 h_r0) (rSta_0_9 h_r0) ?_
    refine a_iload_n dX6_placeIn_31 rfl rfl ?_
    refine a_iload_n dX6_placeIn_32 rfl rfl ?_
    obtain ⟨q33_0, h⟩ := h
    refine a_iadd dX6_placeIn_33 q33_0 ?_
    obtain ⟨q34_0, h⟩ := h
    refine b_iald dX6_placeIn_34 (kSta_19 h_r0) (nSta_19 h_r0) q34_0 ?_
    refine a_iload_n dX6_placeIn_35 rfl rfl ?_
    refine a_icmp_ne dX6_placeIn_36 (tgt := 41) rfl (fun c36 => ?_) (fun c36 => ?_)
    · replace h := h.1 c36
      obtain ⟨q41_0, h⟩ := h
      refine a_iinc dX6_placeIn_41 rfl (Nat.le_of_ble_eq_true rfl) (by decide) q41_0 rfl ?_
      refine a_goto dX6_placeIn_44 (tgt := 12) rfl ?_
      exact h
    · replace h := h.2 c36
      refine a_iload_n dX6_placeIn_39 rfl rfl ?_
      exact a_iret dX6_placeIn_40 rfl (Nat.le_of_ble_eq_true rfl) (Nat.le_of_ble_eq_true rfl) h

