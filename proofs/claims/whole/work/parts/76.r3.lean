theorem dX8_begins_0 : decode cX8_begins 0 = .ok (.iconst 0, 1) := by decide +kernel
theorem dX8_begins_1 : decode cX8_begins 1 = .ok (.istore_n 2, 1) := by decide +kernel
theorem dX8_begins_2 : decode cX8_begins 2 = .ok (.iload_n 2, 1) := by decide +kernel
theorem dX8_begins_3 : decode cX8_begins 3 = .ok (.sipush 440, 3) := by decide +kernel
theorem dX8_begins_6 : decode cX8_begins 6 = .ok (.if_icmp .ge 13, 3) := by decide +kernel
theorem dX8_begins_9 : decode cX8_begins 9 = .ok (.aload_n 0, 1) := by decide +kernel
theorem dX8_begins_10 : decode cX8_begins 10 = .ok (.iload_n 2, 1) := by decide +kernel
theorem dX8_begins_11 : decode cX8_begins 11 = .ok (.iconst 0, 1) := by decide +kernel
theorem dX8_begins_12 : decode cX8_begins 12 = .ok (.iastore, 1) := by decide +kernel
theorem dX8_begins_13 : decode cX8_begins 13 = .ok (.iinc 2 1, 3) := by decide +kernel
theorem dX8_begins_16 : decode cX8_begins 16 = .ok (.goto (-14), 3) := by decide +kernel
theorem dX8_begins_19 : decode cX8_begins 19 = .ok (.aload_n 0, 1) := by decide +kernel
theorem dX8_begins_20 : decode cX8_begins 20 = .ok (.iconst 1, 1) := by decide +kernel
theorem dX8_begins_21 : decode cX8_begins 21 = .ok (.iconst 2, 1) := by decide +kernel
theorem dX8_begins_22 : decode cX8_begins 22 = .ok (.iastore, 1) := by decide +kernel
theorem dX8_begins_23 : decode cX8_begins 23 = .ok (.aload_n 0, 1) := by decide +kernel
theorem dX8_begins_24 : decode cX8_begins 24 = .ok (.iconst 2, 1) := by decide +kernel
theorem dX8_begins_25 : decode cX8_begins 25 = .ok (.bipush 120, 2) := by decide +kernel
theorem dX8_begins_27 : decode cX8_begins 27 = .ok (.iastore, 1) := by decide +kernel
theorem dX8_begins_28 : decode cX8_begins 28 = .ok (.aload_n 0, 1) := by decide +kernel
theorem dX8_begins_29 : decode cX8_begins 29 = .ok (.iconst 3, 1) := by decide +kernel
theorem dX8_begins_30 : decode cX8_begins 30 = .ok (.sipush 600, 3) := by decide +kernel
theorem dX8_begins_33 : decode cX8_begins 33 = .ok (.iastore, 1) := by decide +kernel
theorem dX8_begins_34 : decode cX8_begins 34 = .ok (.aload_n 0, 1) := by decide +kernel
theorem dX8_begins_35 : decode cX8_begins 35 = .ok (.iconst 4, 1) := by decide +kernel
theorem dX8_begins_36 : decode cX8_begins 36 = .ok (.bipush 60, 2) := by decide +kernel
theorem dX8_begins_38 : decode cX8_begins 38 = .ok (.iastore, 1) := by decide +kernel
theorem dX8_begins_39 : decode cX8_begins 39 = .ok (.aload_n 0, 1) := by decide +kernel
theorem dX8_begins_40 : decode cX8_begins 40 = .ok (.iconst 5, 1) := by decide +kernel
theorem dX8_begins_41 : decode cX8_begins 41 = .ok (.iload_n 1, 1) := by decide +kernel
theorem dX8_begins_42 : decode cX8_begins 42 = .ok (.iastore, 1) := by decide +kernel
theorem dX8_begins_43 : decode cX8_begins 43 = .ok (.iconst 0, 1) := by decide +kernel
theorem dX8_begins_44 : decode cX8_begins 44 = .ok (.istore_n 2, 1) := by decide +kernel
theorem dX8_begins_45 : decode cX8_begins 45 = .ok (.iload_n 2, 1) := by decide +kernel
theorem dX8_begins_46 : decode cX8_begins 46 = .ok (.bipush 16, 2) := by decide +kernel
theorem dX8_begins_48 : decode cX8_begins 48 = .ok (.if_icmp .ge 17, 3) := by decide +kernel
theorem dX8_begins_51 : decode cX8_begins 51 = .ok (.aload_n 0, 1) := by decide +kernel
theorem dX8_begins_52 : decode cX8_begins 52 = .ok (.bipush 8, 2) := by decide +kernel
theorem dX8_begins_54 : decode cX8_begins 54 = .ok (.iload_n 2, 1) := by decide +kernel
theorem dX8_begins_55 : decode cX8_begins 55 = .ok (.iadd, 1) := by decide +kernel
theorem dX8_begins_56 : decode cX8_begins 56 = .ok (.bipush 60, 2) := by decide +kernel
theorem dX8_begins_58 : decode cX8_begins 58 = .ok (.iastore, 1) := by decide +kernel
theorem dX8_begins_59 : decode cX8_begins 59 = .ok (.iinc 2 1, 3) := by decide +kernel
theorem dX8_begins_62 : decode cX8_begins 62 = .ok (.goto (-17), 3) := by decide +kernel
theorem dX8_begins_65 : decode cX8_begins 65 = .ok (.iconst 0, 1) := by decide +kernel
theorem dX8_begins_66 : decode cX8_begins 66 = .ok (.istore_n 2, 1) := by decide +kernel
theorem dX8_begins_67 : decode cX8_begins 67 = .ok (.iload_n 2, 1) := by decide +kernel
theorem dX8_begins_68 : decode cX8_begins 68 = .ok (.iconst 4, 1) := by decide +kernel
theorem dX8_begins_69 : decode cX8_begins 69 = .ok (.if_icmp .ge 27, 3) := by decide +kernel
theorem dX8_begins_72 : decode cX8_begins 72 = .ok (.aload_n 0, 1) := by decide +kernel
theorem dX8_begins_73 : decode cX8_begins 73 = .ok (.bipush 24, 2) := by decide +kernel
theorem dX8_begins_75 : decode cX8_begins 75 = .ok (.iload_n 2, 1) := by decide +kernel
theorem dX8_begins_76 : decode cX8_begins 76 = .ok (.iadd, 1) := by decide +kernel
theorem dX8_begins_77 : decode cX8_begins 77 = .ok (.sipush 1000, 3) := by decide +kernel
theorem dX8_begins_80 : decode cX8_begins 80 = .ok (.iastore, 1) := by decide +kernel
theorem dX8_begins_81 : decode cX8_begins 81 = .ok (.aload_n 0, 1) := by decide +kernel
theorem dX8_begins_82 : decode cX8_begins 82 = .ok (.bipush 28, 2) := by decide +kernel
theorem dX8_begins_84 : decode cX8_begins 84 = .ok (.iload_n 2, 1) := by decide +kernel
theorem dX8_begins_85 : decode cX8_begins 85 = .ok (.iadd, 1) := by decide +kernel
theorem dX8_begins_86 : decode cX8_begins 86 = .ok (.sipush 2000, 3) := by decide +kernel
theorem dX8_begins_89 : decode cX8_begins 89 = .ok (.iastore, 1) := by decide +kernel
theorem dX8_begins_90 : decode cX8_begins 90 = .ok (.iinc 2 1, 3) := by decide +kernel
theorem dX8_begins_93 : decode cX8_begins 93 = .ok (.goto (-26), 3) := by decide +kernel
theorem dX8_begins_96 : decode cX8_begins 96 = .ok (.return_, 1) := by decide +kernel
set_option maxRecDepth 20000 in
theorem s_X8_begins_0 {l : Launch} {G : GT} {d : Nat} {Q : AV → AH → Prop} {H : AH} {a0 x1 : Int} (h_r0 : Lay (LArr 10 440) H a0) (h : AW l G mX8_begins d 0 0 Q 2 [vR a0, vI x1, vI 0] [] 0 0 H) : AW l G mX8_begins d 0 0 Q 0 [vR a0, vI x1, vU] [] 0 0 H := by
  refine a_iconst dX8_begins_0 ⟨by decide, by decide⟩ ?_
  refine a_istore_n dX8_begins_1 rfl (Nat.le_of_ble_eq_true rfl) (ls' := [vR a0, vI x1, vI 0]) rfl ?_
  exact h

set_option maxRecDepth 20000 in
theorem s_X8_begins_2 {l : Launch} {G : GT} {d : Nat} {Q : AV → AH → Prop} {H : AH} {a0 x1 x2 : Int} (h_r0 : Lay (LArr 10 440) H a0) (h : (440 ≤ x2 → ∀ H1 : AH, H1 = hs H a0 1 2 → ∀ H2 : AH, H2 = hs H1 a0 2 120 → ∀ H3 : AH, H3 = hs H2 a0 3 600 → ∀ H4 : AH, H4 = hs H3 a0 4 60 → ∀ H5 : AH, H5 = hs H4 a0 5 x1 → AW l G mX8_begins d 0 0 Q 45 [vR a0, vI x1, vI 0] [] 0 0 H5) ∧ (x2 < 440 → (0 ≤ x2 ∧ x2 < 440) ∧ ∀ H1 : AH, H1 = hs H a0 x2 0 → (-2147483648 ≤ x2 + 1 ∧ x2 + 1 ≤ 2147483647) ∧ AW l G mX8_begins d 0 0 Q 2 [vR a0, vI x1, vI (x2 + 1)] [] 0 0 H1)) : AW l G mX8_begins d 0 0 Q 2 [vR a0, vI x1, vI x2] [] 0 0 H := by
  refine a_iload_n dX8_begins_2 rfl rfl ?_
  refine a_sipush dX8_begins_3 (by decide) ?_
  refine a_icmp_ge dX8_begins_6 (tgt := 19) rfl (fun c6 => ?_) (fun c6 => ?_)
  · replace h := h.1 c6
    refine a_aload_n dX8_begins_19 rfl rfl ?_
    refine a_iconst dX8_begins_20 ⟨by decide, by decide⟩ ?_
    refine a_iconst dX8_begins_21 ⟨by decide, by decide⟩ ?_
    refine b_iast dX8_begins_22 (kArr_0 h_r0) (nArr_0 h_r0) (⟨by decide, by decide⟩) ?_
    have h_r0_1 := Lay.wr h_r0 ok_Arr (nrf_arr (kArr_0 h_r0) (by decide) (by decide)) (i := 1) (x := 2)
    generalize e_H1 : hs H a0 1 2 = H1 at h_r0_1 ⊢
    replace h := h H1 e_H1.symm
    refine a_aload_n dX8_begins_23 rfl rfl ?_
    refine a_iconst dX8_begins_24 ⟨by decide, by decide⟩ ?_
    refine a_bipush dX8_begins_25 (by decide) ?_
    refine b_iast dX8_begins_27 (kArr_0 h_r0_1) (nArr_0 h_r0_1) (⟨by decide, by decide⟩) ?_
    have h_r0_2 := Lay.wr h_r0_1 ok_Arr (nrf_arr (kArr_0 h_r0_1) (by decide) (by decide)) (i := 2) (x := 120)
    generalize e_H2 : hs H1 a0 2 120 = H2 at h_r0_2 ⊢
    replace h := h H2 e_H2.symm
    refine a_aload_n dX8_begins_28 rfl rfl ?_
    refine a_iconst dX8_begins_29 ⟨by decide, by decide⟩ ?_
    refine a_sipush dX8_begins_30 (by decide) ?_
    refine b_iast dX8_begins_33 (kArr_0 h_r0_2) (nArr_0 h_r0_2) (⟨by decide, by decide⟩) ?_
    have h_r0_3 := Lay.wr h_r0_2 ok_Arr (nrf_arr (kArr_0 h_r0_2) (by decide) (by decide)) (i := 3) (x := 600)
    generalize e_H3 : hs H2 a0 3 600 = H3 at h_r0_3 ⊢
    replace h := h H3 e_H3.symm
    refine a_aload_n dX8_begins_34 rfl rfl ?_
    refine a_iconst dX8_begins_35 ⟨by decide, by decide⟩ ?_
    refine a_bipush dX8_begins_36 (by decide) ?_
    refine b_iast dX8_begins_38 (kArr_0 h_r0_3) (nArr_0 h_r0_3) (⟨by decide, by decide⟩) ?_
    have h_r0_4 := Lay.wr h_r0_3 ok_Arr (nrf_arr (kArr_0 h_r0_3) (by decide) (by decide)) (i := 4) (x := 60)
    generalize e_H4 : hs H3 a0 4 60 = H4 at h_r0_4 ⊢
    replace h := h H4 e_H4.symm
    refine a_aload_n dX8_begins_39 rfl rfl ?_
    refine a_iconst dX8_begins_40 ⟨by decide, by decide⟩ ?_
    refine a_iload_n dX8_begins_41 rfl rfl ?_
    refine b_iast dX8_begins_42 (kArr_0 h_r0_4) (nArr_0 h_r0_4) (⟨by decide, by decide⟩) ?_
    have h_r0_5 := Lay.wr h_r0_4 ok_Arr (nrf_arr (kArr_0 h_r0_4) (by decide) (by decide)) (i := 5) (x := x1)
    generalize e_H5 : hs H4 a0 5 x1 = H5 at h_r0_5 ⊢
    replace h := h H5 e_H5.symm
    refine a_iconst dX8_begins_43 ⟨by decide, by decide⟩ ?_
    refine a_istore_n dX8_begins_44 rfl (Nat.le_of_ble_eq_true rfl) (ls' := [vR a0, vI x1, vI 0]) rfl ?_
    exact h
  · replace h := h.2 c6
    refine a_aload_n dX8_begins_9 rfl rfl ?_
    refine a_iload_n dX8_begins_10 rfl rfl ?_
    refine a_iconst dX8_begins_11 ⟨by decide, by decide⟩ ?_
    obtain ⟨q12_0, h⟩ := h
    refine b_iast dX8_begins_12 (kArr_0 h_r0) (nArr_0 h_r0) q12_0 ?_
    have h_r0_1 := Lay.wr h_r0 ok_Arr (nrf_arr (kArr_0 h_r0) (by decide) (by decide)) (i := x2) (x := 0)
    generalize e_H1 : hs H a0 x2 0 = H1 at h_r0_1 ⊢
    replace h := h H1 e_H1.symm
    obtain ⟨q13_0, h⟩ := h
    refine a_iinc dX8_begins_13 rfl (Nat.le_of_ble_eq_true rfl) (by decide) q13_0 (ls' := [vR a0, vI x1, vI (x2 + 1)]) rfl ?_
    refine a_goto dX8_begins_16 (tgt := 2) rfl ?_
    exact h

set_option maxRecDepth 20000 in
theorem s_X8_begins_45 {l : Launch} {G : GT} {d : Nat} {Q : AV → AH → Prop} {H : AH} {a0 x1 x2 : Int} (h_r0 : Lay (LArr 10 440) H a0) (h : (16 ≤ x2 → AW l G mX8_begins d 0 0 Q 67 [vR a0, vI x1, vI 0] [] 0 0 H) ∧ (x2 < 16 → (-2147483648 ≤ 8 + x2 ∧ 8 + x2 ≤ 2147483647) ∧ (0 ≤ (8 + x2) ∧ (8 + x2) < 440) ∧ ∀ H1 : AH, H1 = hs H a0 (8 + x2) 60 → (-2147483648 ≤ x2 + 1 ∧ x2 + 1 ≤ 2147483647) ∧ AW l G mX8_begins d 0 0 Q 45 [vR a0, vI x1, vI (x2 + 1)] [] 0 0 H1)) : AW l G mX8_begins d 0 0 Q 45 [vR a0, vI x1, vI x2] [] 0 0 H := by
  refine a_iload_n dX8_begins_45 rfl rfl ?_
  refine a_bipush dX8_begins_46 (by decide) ?_
  refine a_icmp_ge dX8_begins_48 (tgt := 65) rfl (fun c48 => ?_) (fun c48 => ?_)
  · replace h := h.1 c48
    refine a_iconst dX8_begins_65 ⟨by decide, by decide⟩ ?_
    refine a_istore_n dX8_begins_66 rfl (Nat.le_of_ble_eq_true rfl) (ls' := [vR a0, vI x1, vI 0]) rfl ?_
    exact h
  · replace h := h.2 c48
    refine a_aload_n dX8_begins_51 rfl rfl ?_
    refine a_bipush dX8_begins_52 (by decide) ?_
    refine a_iload_n dX8_begins_54 rfl rfl ?_
    obtain ⟨q55_0, h⟩ := h
    refine a_iadd dX8_begins_55 q55_0 ?_
    refine a_bipush dX8_begins_56 (by decide) ?_
    obtain ⟨q58_0, h⟩ := h
    refine b_iast dX8_begins_58 (kArr_0 h_r0) (nArr_0 h_r0) q58_0 ?_
    have h_r0_1 := Lay.wr h_r0 ok_Arr (nrf_arr (kArr_0 h_r0) (by decide) (by decide)) (i := (8 + x2)) (x := 60)
    generalize e_H1 : hs H a0 (8 + x2) 60 = H1 at h_r0_1 ⊢
    replace h := h H1 e_H1.symm
    obtain ⟨q59_0, h⟩ := h
    refine a_iinc dX8_begins_59 rfl (Nat.le_of_ble_eq_true rfl) (by decide) q59_0 (ls' := [vR a0, vI x1, vI (x2 + 1)]) rfl ?_
    refine a_goto dX8_begins_62 (tgt := 45) rfl ?_
    exact h

set_option maxRecDepth 20000 in
theorem s_X8_begins_67 {l : Launch} {G : GT} {d : Nat} {Q : AV → AH → Prop} {H : AH} {a0 x1 x2 : Int} (h_r0 : Lay (LArr 10 440) H a0) (h : (4 ≤ x2 → Q vV H) ∧ (x2 < 4 → (-2147483648 ≤ 24 + x2 ∧ 24 + x2 ≤ 2147483647) ∧ (0 ≤ (24 + x2) ∧ (24 + x2) < 440) ∧ ∀ H1 : AH, H1 = hs H a0 (24 + x2) 1000 → (-2147483648 ≤ 28 + x2 ∧ 28 + x2 ≤ 2147483647) ∧ (0 ≤ (28 + x2) ∧ (28 + x2) < 440) ∧ ∀ H2 : AH, H2 = hs H1 a0 (28 + x2) 2000 → (-2147483648 ≤ x2 + 1 ∧ x2 + 1 ≤ 2147483647) ∧ AW l G mX8_begins d 0 0 Q 67 [vR a0, vI x1, vI (x2 + 1)] [] 0 0 H2)) : AW l G mX8_begins d 0 0 Q 67 [vR a0, vI x1, vI x2] [] 0 0 H := by
  refine a_iload_n dX8_begins_67 rfl rfl ?_
  refine a_iconst dX8_begins_68 ⟨by decide, by decide⟩ ?_
  refine a_icmp_ge dX8_begins_69 (tgt := 96) rfl (fun c69 => ?_) (fun c69 => ?_)
  · replace h := h.1 c69
    exact a_vret dX8_begins_96 rfl (Nat.le_of_ble_eq_true rfl) (Nat.le_of_ble_eq_true rfl) h
  · replace h := h.2 c69
    refine a_aload_n dX8_begins_72 rfl rfl ?_
    refine a_bipush dX8_begins_73 (by decide) ?_
    refine a_iload_n dX8_begins_75 rfl rfl ?_
    obtain ⟨q76_0, h⟩ := h
    refine a_iadd dX8_begins_76 q76_0 ?_
    refine a_sipush dX8_begins_77 (by decide) ?_
    obtain ⟨q80_0, h⟩ := h
    refine b_iast dX8_begins_80 (kArr_0 h_r0) (nArr_0 h_r0) q80_0 ?_
    have h_r0_1 := Lay.wr h_r0 ok_Arr (nrf_arr (kArr_0 h_r0) (by decide) (by decide)) (i := (24 + x2)) (x := 1000)
    generalize e_H1 : hs H a0 (24 + x2) 1000 = H1 at h_r0_1 ⊢
    replace h := h H1 e_H1.symm
    refine a_aload_n dX8_begins_81 rfl rfl ?_
    refine a_bipush dX8_begins_82 (by decide) ?_
    refine a_iload_n dX8_begins_84 rfl rfl ?_
    obtain ⟨q85_0, h⟩ := h
    refine a_iadd dX8_begins_85 q85_0 ?_
    refine a_sipush dX8_begins_86 (by decide) ?_
    obtain ⟨q89_0, h⟩ := h
    refine b_iast dX8_begins_89 (kArr_0 h_r0_1) (nArr_0 h_r0_1) q89_0 ?_
    have h_r0_2 := Lay.wr h_r0_1 ok_Arr (nrf_arr (kArr_0 h_r0_1) (by decide) (by decide)) (i := (28 + x2)) (x := 2000)
    generalize e_H2 : hs H1 a0 (28 + x2) 2000 = H2 at h_r0_2 ⊢
    replace h := h H2 e_H2.symm
    obtain ⟨q90_0, h⟩ := h
    refine a_iinc dX8_begins_90 rfl (Nat.le_of_ble_eq_true rfl) (by decide) q90_0 (ls' := [vR a0, vI x1, vI (x2 + 1)]) rfl ?_
    refine a_goto dX8_begins_93 (tgt := 67) rfl ?_
    exact h


theorem dX8_wakeClass_0 : decode cX8_wakeClass 0 = .ok (.aload_n 0, 1) := by decide +kernel
theorem dX8_wakeClass_1 : decode cX8_wakeClass 1 = .ok (.getfield 94, 3) := by decide +kernel
theorem dX8_wakeClass_4 : decode cX8_wakeClass 4 = .ok (.ifCond .eq 5, 3) := by decide +kernel
theorem dX8_wakeClass_7 : decode cX8_wakeClass 7 = .ok (.iconst 0, 1) := by decide +kernel
theorem dX8_wakeClass_8 : decode cX8_wakeClass 8 = .ok (.ireturn, 1) := by decide +kernel
theorem dX8_wakeClass_9 : decode cX8_wakeClass 9 = .ok (.aload_n 0, 1) := by decide +kernel
theorem dX8_wakeClass_10 : decode cX8_wakeClass 10 = .ok (.invokevirtual 121, 3) := by decide +kernel
theorem dX8_wakeClass_13 : decode cX8_wakeClass 13 = .ok (.aload_n 0, 1) := by decide +kernel
theorem dX8_wakeClass_14 : decode cX8_wakeClass 14 = .ok (.ldc 124, 2) := by decide +kernel
theorem dX8_wakeClass_16 : decode cX8_wakeClass 16 = .ok (.invokevirtual 126, 3) := by decide +kernel
theorem dX8_wakeClass_19 : decode cX8_wakeClass 19 = .ok (.ifCond .eq 7, 3) := by decide +kernel
theorem dX8_wakeClass_22 : decode cX8_wakeClass 22 = .ok (.iconst 0, 1) := by decide +kernel
theorem dX8_wakeClass_23 : decode cX8_wakeClass 23 = .ok (.goto 43, 3) := by decide +kernel
theorem dX8_wakeClass_26 : decode cX8_wakeClass 26 = .ok (.aload_n 0, 1) := by decide +kernel
theorem dX8_wakeClass_27 : decode cX8_wakeClass 27 = .ok (.ldc 130, 2) := by decide +kernel
theorem dX8_wakeClass_29 : decode cX8_wakeClass 29 = .ok (.invokevirtual 126, 3) := by decide +kernel
theorem dX8_wakeClass_32 : decode cX8_wakeClass 32 = .ok (.ifCond .eq 7, 3) := by decide +kernel
theorem dX8_wakeClass_35 : decode cX8_wakeClass 35 = .ok (.iconst 1, 1) := by decide +kernel
theorem dX8_wakeClass_36 : decode cX8_wakeClass 36 = .ok (.goto 30, 3) := by decide +kernel
theorem dX8_wakeClass_39 : decode cX8_wakeClass 39 = .ok (.aload_n 0, 1) := by decide +kernel
theorem dX8_wakeClass_40 : decode cX8_wakeClass 40 = .ok (.ldc 132, 2) := by decide +kernel
theorem dX8_wakeClass_42 : decode cX8_wakeClass 42 = .ok (.invokevirtual 126, 3) := by decide +kernel
theorem dX8_wakeClass_45 : decode cX8_wakeClass 45 = .ok (.ifCond .eq 7, 3) := by decide +kernel
theorem dX8_wakeClass_48 : decode cX8_wakeClass 48 = .ok (.iconst 2, 1) := by decide +kernel
theorem dX8_wakeClass_49 : decode cX8_wakeClass 49 = .ok (.goto 17, 3) := by decide +kernel
theorem dX8_wakeClass_52 : decode cX8_wakeClass 52 = .ok (.aload_n 0, 1) := by decide +kernel
theorem dX8_wakeClass_53 : decode cX8_wakeClass 53 = .ok (.ldc 134, 2) := by decide +kernel
theorem dX8_wakeClass_55 : decode cX8_wakeClass 55 = .ok (.invokevirtual 126, 3) := by decide +kernel
theorem dX8_wakeClass_58 : decode cX8_wakeClass 58 = .ok (.ifCond .eq 7, 3) := by decide +kernel
theorem dX8_wakeClass_61 : decode cX8_wakeClass 61 = .ok (.iconst 3, 1) := by decide +kernel
theorem dX8_wakeClass_62 : decode cX8_wakeClass 62 = .ok (.goto 4, 3) := by decide +kernel
theorem dX8_wakeClass_65 : decode cX8_wakeClass 65 = .ok (.iconst (-1), 1) := by decide +kernel
theorem dX8_wakeClass_66 : decode cX8_wakeClass 66 = .ok (.istore_n 1, 1) := by decide +kernel
theorem dX8_wakeClass_67 : decode cX8_wakeClass 67 = .ok (.iload_n 1, 1) := by decide +kernel
theorem dX8_wakeClass_68 : decode cX8_wakeClass 68 = .ok (.iconst (-1), 1) := by decide +kernel
theorem dX8_wakeClass_69 : decode cX8_wakeClass 69 = .ok (.if_icmp .ne 14, 3) := by decide +kernel
theorem dX8_wakeClass_72 : decode cX8_wakeClass 72 = .ok (.aload_n 0, 1) := by decide +kernel
theorem dX8_wakeClass_73 : decode cX8_wakeClass 73 = .ok (.iconst 1, 1) := by decide +kernel
theorem dX8_wakeClass_74 : decode cX8_wakeClass 74 = .ok (.aload_n 0, 1) := by decide +kernel
theorem dX8_wakeClass_75 : decode cX8_wakeClass 75 = .ok (.getfield 91, 3) := by decide +kernel
theorem dX8_wakeClass_78 : decode cX8_wakeClass 78 = .ok (.invokevirtual 111, 3) := by decide +kernel
theorem dX8_wakeClass_81 : decode cX8_wakeClass 81 = .ok (.iconst 0, 1) := by decide +kernel
theorem dX8_wakeClass_82 : decode cX8_wakeClass 82 = .ok (.ireturn, 1) := by decide +kernel
theorem dX8_wakeClass_83 : decode cX8_wakeClass 83 = .ok (.iload_n 1, 1) := by decide +kernel
theorem dX8_wakeClass_84 : decode cX8_wakeClass 84 = .ok (.ireturn, 1) := by decide +kernel
set_option maxRecDepth 20000 in
theorem s_X8_wakeClass_0 {l : Launch} {G : GT} {d : Nat} {Q : AV → AH → Prop} {H : AH} {a0 : Int} (hT : gT G) (h_r0 : Lay LMod H a0) (h : ((hg H a0 10) = 0 → CL l G mX8_reads d 0 0 [vR a0] H (fun r9 H1 => Lay LMod H1 a0 ∧ r9 = vV ∧ ∃ w14 : Bool, mWd H1 a0 ws_super w14 ∧ (¬ (w14 = true) → ∃ w27 : Bool, mWd H1 a0 ws_heavy w27 ∧ (¬ (w27 = true) → ∃ w40 : Bool, mWd H1 a0 ws_medium w40 ∧ (¬ (w40 = true) → ∃ w53 : Bool, mWd H1 a0 ws_light w53 ∧ (¬ (w53 = true) → CL l G mX8_fails d 0 0 [vR a0, vI 1, vI (hg H1 a0 9)] H1 (fun r9 H2 => Lay LMod H2 a0 ∧ r9 = vV ∧ Q (vI 0) H2)) ∧ (w53 = true → Q (vI 3) H1)) ∧ (w40 = true → Q (vI 2) H1)) ∧ (w27 = true → Q (vI 1) H1)) ∧ (w14 = true → Q (vI 0) H1))) ∧ (¬ (hg H a0 10) = 0 → Q (vI 0) H)) (hd : 4 ≤ d := by omega) : AW l G mX8_wakeClass (d + 1) 0 0 Q 0 [vR a0, vU] [] 0 0 H := by
  refine a_aload_n dX8_wakeClass_0 rfl rfl ?_
  refine a_getI dX8_wakeClass_1 fw_RX8_94 rfl rfl (kMod_0 h_r0) ?_
  refine a_if_eq dX8_wakeClass_4 (tgt := 9) rfl (fun c4 => ?_) (fun c4 => ?_)
  · replace h := h.1 c4
    refine a_aload_n dX8_wakeClass_9 rfl rfl ?_
    refine a_callV dX8_wakeClass_10 cw_X8_wakeClass_10 (as := []) rfl rfl (kMod_0 h_r0) (Nat.le_refl _) (Nat.le_of_ble_eq_true rfl) (nocov rfl) (Nat.le_of_ble_eq_true rfl) (Nat.le_of_ble_eq_true rfl) (CL.mono h (fun r9 H1 h => ?_))
    obtain ⟨h_r0_1, e9, h⟩ := h
    rw [e9]
    show AW l G mX8_wakeClass (d + 1) 0 0 Q 13 [vR a0, vU] [] 0 0 H1
    refine a_aload_n dX8_wakeClass_13 rfl rfl ?_
    obtain ⟨w14, qw14, h⟩ := h
    obtain ⟨q9, t9, g9, g8⟩ := hT.2 _ _ _ _ wl_RX8_124
    refine a_ldcX g9 dX8_wakeClass_14 ?_
    refine a_callV dX8_wakeClass_16 cw_X8_wakeClass_16 (as := [vX q9]) rfl rfl (kMod_0 h_r0_1) (Nat.le_refl _) (Nat.le_of_ble_eq_true rfl) (nocov rfl) (Nat.le_of_ble_eq_true rfl) (Nat.le_of_ble_eq_true rfl) (CL.mono (c_isWord h_r0_1 g8 hT.1 (by decide) qw14) (fun r9 H9 h9 => ?_))
    rw [h9.1, h9.2]
    show AW l G mX8_wakeClass (d + 1) 0 0 Q 19 [vR a0, vU] [vI (bi (decide (w14 = true)))] 0 0 H1
    refine a_if_eq dX8_wakeClass_19 (tgt := 26) rfl (fun c19 => ?_) (fun c19 => ?_)
    · replace h := h.1 (bi_0 c19)
      refine a_aload_n dX8_wakeClass_26 rfl rfl ?_
      obtain ⟨w27, qw27, h⟩ := h
      obtain ⟨q9, t9, g9, g8⟩ := hT.2 _ _ _ _ wl_RX8_130
      refine a_ldcX g9 dX8_wakeClass_27 ?_
      refine a_callV dX8_wakeClass_29 cw_X8_wakeClass_29 (as := [vX q9]) rfl rfl (kMod_0 h_r0_1) (Nat.le_refl _) (Nat.le_of_ble_eq_true rfl) (nocov rfl) (Nat.le_of_ble_eq_true rfl) (Nat.le_of_ble_eq_true rfl) (CL.mono (c_isWord h_r0_1 g8 hT.1 (by decide) qw27) (fun r9 H9 h9 => ?_))
      rw [h9.1, h9.2]
      show AW l G mX8_wakeClass (d + 1) 0 0 Q 32 [vR a0, vU] [vI (bi (decide (w27 = true)))] 0 0 H1
      refine a_if_eq dX8_wakeClass_32 (tgt := 39) rfl (fun c32 => ?_) (fun c32 => ?_)
      · replace h := h.1 (bi_0 c32)
        refine a_aload_n dX8_wakeClass_39 rfl rfl ?_
        obtain ⟨w40, qw40, h⟩ := h
        obtain ⟨q9, t9, g9, g8⟩ := hT.2 _ _ _ _ wl_RX8_132
        refine a_ldcX g9 dX8_wakeClass_40 ?_
        refine a_callV dX8_wakeClass_42 cw_X8_wakeClass_42 (as := [vX q9]) rfl rfl (kMod_0 h_r0_1) (Nat.le_refl _) (Nat.le_of_ble_eq_true rfl) (nocov rfl) (Nat.le_of_ble_eq_true rfl) (Nat.le_of_ble_eq_true rfl) (CL.mono (c_isWord h_r0_1 g8 hT.1 (by decide) qw40) (fun r9 H9 h9 => ?_))
        rw [h9.1, h9.2]
        show AW l G mX8_wakeClass (d + 1) 0 0 Q 45 [vR a0, vU] [vI (bi (decide (w40 = true)))] 0 0 H1
        refine a_if_eq dX8_wakeClass_45 (tgt := 52) rfl (fun c45 => ?_) (fun c45 => ?_)
        · replace h := h.1 (bi_0 c45)
          refine a_aload_n dX8_wakeClass_52 rfl rfl ?_
          obtain ⟨w53, qw53, h⟩ := h
          obtain ⟨q9, t9, g9, g8⟩ := hT.2 _ _ _ _ wl_RX8_134
          refine a_ldcX g9 dX8_wakeClass_53 ?_
          refine a_callV dX8_wakeClass_55 cw_X8_wakeClass_55 (as := [vX q9]) rfl rfl (kMod_0 h_r0_1) (Nat.le_refl _) (Nat.le_of_ble_eq_true rfl) (nocov rfl) (Nat.le_of_ble_eq_true rfl) (Nat.le_of_ble_eq_true rfl) (CL.mono (c_isWord h_r0_1 g8 hT.1 (by decide) qw53) (fun r9 H9 h9 => ?_))
          rw [h9.1, h9.2]
          show AW l G mX8_wakeClass (d + 1) 0 0 Q 58 [vR a0, vU] [vI (bi (decide (w53 = true)))] 0 0 H1
          refine a_if_eq dX8_wakeClass_58 (tgt := 65) rfl (fun c58 => ?_) (fun c58 => ?_)
          · replace h := h.1 (bi_0 c58)
            refine a_iconst dX8_wakeClass_65 ⟨by decide, by decide⟩ ?_
            refine a_istore_n dX8_wakeClass_66 rfl (Nat.le_of_ble_eq_true rfl) (ls' := [vR a0, vI (-1)]) rfl ?_
            refine a_iload_n dX8_wakeClass_67 rfl rfl ?_
            refine a_iconst dX8_wakeClass_68 ⟨by decide, by decide⟩ ?_
            refine a_icmp_ne dX8_wakeClass_69 (tgt := 83) rfl (fun c9 => absurd c9 (by decide)) (fun _ => ?_)
            refine a_aload_n dX8_wakeClass_72 rfl rfl ?_
            refine a_iconst dX8_wakeClass_73 ⟨by decide, by decide⟩ ?_
            refine a_aload_n dX8_wakeClass_74 rfl rfl ?_
            refine a_getI dX8_wakeClass_75 fw_RX8_91 rfl rfl (kMod_0 h_r0_1) ?_
            refine a_callV dX8_wakeClass_78 cw_X8_wakeClass_78 (as := [vI 1, vI (hg H1 a0 9)]) rfl rfl (kMod_0 h_r0_1) (Nat.le_refl _) (Nat.le_of_ble_eq_true rfl) (nocov rfl) (Nat.le_of_ble_eq_true rfl) (Nat.le_of_ble_eq_true rfl) (CL.mono h (fun r9 H2 h => ?_))
            obtain ⟨h_r0_2, e9, h⟩ := h
            rw [e9]
            show AW l G mX8_wakeClass (d + 1) 0 0 Q 81 [vR a0, vI (-1)] [] 0 0 H2
            refine a_iconst dX8_wakeClass_81 ⟨by decide, by decide⟩ ?_
            exact a_iret dX8_wakeClass_82 rfl (Nat.le_of_ble_eq_true rfl) (Nat.le_of_ble_eq_true rfl) h
          · replace h := h.2 (bi_1 c58)
            refine a_iconst dX8_wakeClass_61 ⟨by decide, by decide⟩ ?_
            refine a_goto dX8_wakeClass_62 (tgt := 66) rfl ?_
            refine a_istore_n dX8_wakeClass_66 rfl (Nat.le_of_ble_eq_true rfl) (ls' := [vR a0, vI 3]) rfl ?_
            refine a_iload_n dX8_wakeClass_67 rfl rfl ?_
            refine a_iconst dX8_wakeClass_68 ⟨by decide, by decide⟩ ?_
            refine a_icmp_ne dX8_wakeClass_69 (tgt := 83) rfl (fun _ => ?_) (fun c9 => absurd c9 (by decide))
            refine a_iload_n dX8_wakeClass_83 rfl rfl ?_
            exact a_iret dX8_wakeClass_84 rfl (Nat.le_of_ble_eq_true rfl) (Nat.le_of_ble_eq_true rfl) h
        · replace h := h.2 (bi_1 c45)
          refine a_iconst dX8_wakeClass_48 ⟨by decide, by decide⟩ ?_
          refine a_goto dX8_wakeClass_49 (tgt := 66) rfl ?_
          refine a_istore_n dX8_wakeClass_66 rfl (Nat.le_of_ble_eq_true rfl) (ls' := [vR a0, vI 2]) rfl ?_
          refine a_iload_n dX8_wakeClass_67 rfl rfl ?_
          refine a_iconst dX8_wakeClass_68 ⟨by decide, by decide⟩ ?_
          refine a_icmp_ne dX8_wakeClass_69 (tgt := 83) rfl (fun _ => ?_) (fun c9 => absurd c9 (by decide))
          refine a_iload_n dX8_wakeClass_83 rfl rfl ?_
          exact a_iret dX8_wakeClass_84 rfl (Nat.le_of_ble_eq_true rfl) (Nat.le_of_ble_eq_true rfl) h
      · replace h := h.2 (bi_1 c32)
        refine a_iconst dX8_wakeClass_35 ⟨by decide, by decide⟩ ?_
        refine a_goto dX8_wakeClass_36 (tgt := 66) rfl ?_
        refine a_istore_n dX8_wakeClass_66 rfl (Nat.le_of_ble_eq_true rfl) (ls' := [vR a0, vI 1]) rfl ?_
        refine a_iload_n dX8_wakeClass_67 rfl rfl ?_
        refine a_iconst dX8_wakeClass_68 ⟨by decide, by decide⟩ ?_
        refine a_icmp_ne dX8_wakeClass_69 (tgt := 83) rfl (fun _ => ?_) (fun c9 => absurd c9 (by decide))
        refine a_iload_n dX8_wakeClass_83 rfl rfl ?_
        exact a_iret dX8_wakeClass_84 rfl (Nat.le_of_ble_eq_true rfl) (Nat.le_of_ble_eq_true rfl) h
    · replace h := h.2 (bi_1 c19)
      refine a_iconst dX8_wakeClass_22 ⟨by decide, by decide⟩ ?_
      refine a_goto dX8_wakeClass_23 (tgt := 66) rfl ?_
      refine a_istore_n dX8_wakeClass_66 rfl (Nat.le_of_ble_eq_true rfl) (ls' := [vR a0, vI 0]) rfl ?_
      refine a_iload_n dX8_wakeClass_67 rfl rfl ?_
      refine a_iconst dX8_wakeClass_68 ⟨by decide, by decide⟩ ?_
      refine a_icmp_ne dX8_wakeClass_69 (tgt := 83) rfl (fun _ => ?_) (fun c9 => absurd c9 (by decide))
      refine a_iload_n dX8_wakeClass_83 rfl rfl ?_
      exact a_iret dX8_wakeClass_84 rfl (Nat.le_of_ble_eq_true rfl) (Nat.le_of_ble_eq_true rfl) h
  · replace h := h.2 c4
    refine a_iconst dX8_wakeClass_7 ⟨by decide, by decide⟩ ?_
    exact a_iret dX8_wakeClass_8 rfl (Nat.le_of_ble_eq_true rfl) (Nat.le_of_ble_eq_true rfl) h


theorem dX8_isNameOf_0 : decode cX8_isNameOf 0 = .ok (.iconst 1, 1) := by decide +kernel
theorem dX8_isNameOf_1 : decode cX8_isNameOf 1 = .ok (.istore_n 3, 1) := by decide +kernel
theorem dX8_isNameOf_2 : decode cX8_isNameOf 2 = .ok (.iconst 0, 1) := by decide +kernel
theorem dX8_isNameOf_3 : decode cX8_isNameOf 3 = .ok (.istore 4, 2) := by decide +kernel
theorem dX8_isNameOf_5 : decode cX8_isNameOf 5 = .ok (.iload 4, 2) := by decide +kernel
theorem dX8_isNameOf_7 : decode cX8_isNameOf 7 = .ok (.bipush 6, 2) := by decide +kernel
theorem dX8_isNameOf_9 : decode cX8_isNameOf 9 = .ok (.if_icmp .ge 67, 3) := by decide +kernel
theorem dX8_isNameOf_12 : decode cX8_isNameOf 12 = .ok (.aload_n 0, 1) := by decide +kernel
theorem dX8_isNameOf_13 : decode cX8_isNameOf 13 = .ok (.getfield 91, 3) := by decide +kernel
theorem dX8_isNameOf_16 : decode cX8_isNameOf 16 = .ok (.iload 4, 2) := by decide +kernel
theorem dX8_isNameOf_18 : decode cX8_isNameOf 18 = .ok (.iadd, 1) := by decide +kernel
theorem dX8_isNameOf_19 : decode cX8_isNameOf 19 = .ok (.aload_n 0, 1) := by decide +kernel
theorem dX8_isNameOf_20 : decode cX8_isNameOf 20 = .ok (.getfield 85, 3) := by decide +kernel
theorem dX8_isNameOf_23 : decode cX8_isNameOf 23 = .ok (.if_icmp .ge 18, 3) := by decide +kernel
theorem dX8_isNameOf_26 : decode cX8_isNameOf 26 = .ok (.aload_n 0, 1) := by decide +kernel
theorem dX8_isNameOf_27 : decode cX8_isNameOf 27 = .ok (.getfield 26, 3) := by decide +kernel
theorem dX8_isNameOf_30 : decode cX8_isNameOf 30 = .ok (.aload_n 0, 1) := by decide +kernel
theorem dX8_isNameOf_31 : decode cX8_isNameOf 31 = .ok (.getfield 91, 3) := by decide +kernel
theorem dX8_isNameOf_34 : decode cX8_isNameOf 34 = .ok (.iload 4, 2) := by decide +kernel
theorem dX8_isNameOf_36 : decode cX8_isNameOf 36 = .ok (.iadd, 1) := by decide +kernel
theorem dX8_isNameOf_37 : decode cX8_isNameOf 37 = .ok (.baload, 1) := by decide +kernel
theorem dX8_isNameOf_38 : decode cX8_isNameOf 38 = .ok (.goto 4, 3) := by decide +kernel
theorem dX8_isNameOf_41 : decode cX8_isNameOf 41 = .ok (.iconst 0, 1) := by decide +kernel
theorem dX8_isNameOf_42 : decode cX8_isNameOf 42 = .ok (.istore 5, 2) := by decide +kernel
theorem dX8_isNameOf_44 : decode cX8_isNameOf 44 = .ok (.iload_n 3, 1) := by decide +kernel
theorem dX8_isNameOf_45 : decode cX8_isNameOf 45 = .ok (.ifCond .eq 23, 3) := by decide +kernel
theorem dX8_isNameOf_48 : decode cX8_isNameOf 48 = .ok (.aload_n 1, 1) := by decide +kernel
theorem dX8_isNameOf_49 : decode cX8_isNameOf 49 = .ok (.iload_n 2, 1) := by decide +kernel
theorem dX8_isNameOf_50 : decode cX8_isNameOf 50 = .ok (.bipush 10, 2) := by decide +kernel
theorem dX8_isNameOf_52 : decode cX8_isNameOf 52 = .ok (.iload 4, 2) := by decide +kernel
theorem dX8_isNameOf_54 : decode cX8_isNameOf 54 = .ok (.iadd, 1) := by decide +kernel
theorem dX8_isNameOf_55 : decode cX8_isNameOf 55 = .ok (.invokestatic 59, 3) := by decide +kernel
theorem dX8_isNameOf_58 : decode cX8_isNameOf 58 = .ok (.iaload, 1) := by decide +kernel
theorem dX8_isNameOf_59 : decode cX8_isNameOf 59 = .ok (.iload 5, 2) := by decide +kernel
theorem dX8_isNameOf_61 : decode cX8_isNameOf 61 = .ok (.if_icmp .ne 7, 3) := by decide +kernel
theorem dX8_isNameOf_64 : decode cX8_isNameOf 64 = .ok (.iconst 1, 1) := by decide +kernel
theorem dX8_isNameOf_65 : decode cX8_isNameOf 65 = .ok (.goto 4, 3) := by decide +kernel
theorem dX8_isNameOf_68 : decode cX8_isNameOf 68 = .ok (.iconst 0, 1) := by decide +kernel
theorem dX8_isNameOf_69 : decode cX8_isNameOf 69 = .ok (.istore_n 3, 1) := by decide +kernel
theorem dX8_isNameOf_70 : decode cX8_isNameOf 70 = .ok (.iinc 4 1, 3) := by decide +kernel
theorem dX8_isNameOf_73 : decode cX8_isNameOf 73 = .ok (.goto (-68), 3) := by decide +kernel
theorem dX8_isNameOf_76 : decode cX8_isNameOf 76 = .ok (.iload_n 3, 1) := by decide +kernel
theorem dX8_isNameOf_77 : decode cX8_isNameOf 77 = .ok (.ireturn, 1) := by decide +kernel
set_option maxRecDepth 20000 in
theorem s_X8_isNameOf_0 {l : Launch} {G : GT} {d : Nat} {Q : AV → AH → Prop} {H : AH} {a0 a1 x2 : Int} (h_r0 : Lay LMod H a0) (h_r1 : Lay (LArr 10 440) H a1) (h : AW l G mX8_isNameOf (d + 1) 0 0 Q 5 [vR a0, vR a1, vI x2, vI 1, vI 0, vU] [] 0 0 H) : AW l G mX8_isNameOf (d + 1) 0 0 Q 0 [vR a0, vR a1, vI x2, vU, vU, vU] [] 0 0 H := by
  refine a_iconst dX8_isNameOf_0 ⟨by decide, by decide⟩ ?_
  refine a_istore_n dX8_isNameOf_1 rfl (Nat.le_of_ble_eq_true rfl) (ls' := [vR a0, vR a1, vI x2, vI 1, vU, vU]) rfl ?_
  refine a_iconst dX8_isNameOf_2 ⟨by decide, by decide⟩ ?_
  refine a_istore dX8_isNameOf_3 (Nat.le_of_ble_eq_true rfl) (ls' := [vR a0, vR a1, vI x2, vI 1, vI 0, vU]) rfl ?_
  exact h

set_option maxRecDepth 20000 in
theorem s_X8_isNameOf_5 {l : Launch} {G : GT} {d : Nat} {Q : AV → AH → Prop} {H : AH} {a0 a1 x2 x3 x4 : Int} (h_r0 : Lay LMod H a0) (h_r1 : Lay (LArr 10 440) H a1) (h : (6 ≤ x4 → (x3 = 0 ∨ x3 = 1) ∧ Q (vI x3) H) ∧ (x4 < 6 → (-2147483648 ≤ (hg H a0 9) + x4 ∧ (hg H a0 9) + x4 ≤ 2147483647) ∧ ((hg H a0 8) ≤ ((hg H a0 9) + x4) → (x3 = 0 → (-2147483648 ≤ x4 + 1 ∧ x4 + 1 ≤ 2147483647) ∧ AW l G mX8_isNameOf (d + 1) 0 0 Q 5 [vR a0, vR a1, vI x2, vI 0, vI (x4 + 1), vU] [] 0 0 H) ∧ (¬ x3 = 0 → (-2147483648 ≤ 10 + x4 ∧ 10 + x4 ≤ 2147483647) ∧ (0 ≤ x2 ∧ x2 ≤ 30 ∧ 0 ≤ (10 + x4) ∧ (10 + x4) ≤ 30) ∧ (0 ≤ (56 + 16 * x2 + (10 + x4)) ∧ (56 + 16 * x2 + (10 + x4)) < 440) ∧ (¬ (hg H a1 (56 + 16 * x2 + (10 + x4))) = 0 → (-2147483648 ≤ x4 + 1 ∧ x4 + 1 ≤ 2147483647) ∧ AW l G mX8_isNameOf (d + 1) 0 0 Q 5 [vR a0, vR a1, vI x2, vI 0, vI (x4 + 1), vU] [] 0 0 H) ∧ ((hg H a1 (56 + 16 * x2 + (10 + x4))) = 0 → (-2147483648 ≤ x4 + 1 ∧ x4 + 1 ≤ 2147483647) ∧ AW l G mX8_isNameOf (d + 1) 0 0 Q 5 [vR a0, vR a1, vI x2, vI 1, vI (x4 + 1), vU] [] 0 0 H))) ∧ (((hg H a0 9) + x4) < (hg H a0 8) → (0 ≤ ((hg H a0 9) + x4) ∧ ((hg H a0 9) + x4) < 900) ∧ (x3 = 0 → (-2147483648 ≤ x4 + 1 ∧ x4 + 1 ≤ 2147483647) ∧ AW l G mX8_isNameOf (d + 1) 0 0 Q 5 [vR a0, vR a1, vI x2, vI 0, vI (x4 + 1), vU] [] 0 0 H) ∧ (¬ x3 = 0 → (-2147483648 ≤ 10 + x4 ∧ 10 + x4 ≤ 2147483647) ∧ (0 ≤ x2 ∧ x2 ≤ 30 ∧ 0 ≤ (10 + x4) ∧ (10 + x4) ≤ 30) ∧ (0 ≤ (56 + 16 * x2 + (10 + x4)) ∧ (56 + 16 * x2 + (10 + x4)) < 440) ∧ (¬ (hg H a1 (56 + 16 * x2 + (10 + x4))) = (hg H (a0 + 6) ((hg H a0 9) + x4)) → (-2147483648 ≤ x4 + 1 ∧ x4 + 1 ≤ 2147483647) ∧ AW l G mX8_isNameOf (d + 1) 0 0 Q 5 [vR a0, vR a1, vI x2, vI 0, vI (x4 + 1), vU] [] 0 0 H) ∧ ((hg H a1 (56 + 16 * x2 + (10 + x4))) = (hg H (a0 + 6) ((hg H a0 9) + x4)) → (-2147483648 ≤ x4 + 1 ∧ x4 + 1 ≤ 2147483647) ∧ AW l G mX8_isNameOf (d + 1) 0 0 Q 5 [vR a0, vR a1, vI x2, vI 1, vI (x4 + 1), vU] [] 0 0 H))))) : AW l G mX8_isNameOf (d + 1) 0 0 Q 5 [vR a0, vR a1, vI x2, vI x3, vI x4, vU] [] 0 0 H := by
  refine a_iload dX8_isNameOf_5 rfl ?_
  refine a_bipush dX8_isNameOf_7 (by decide) ?_
  refine a_icmp_ge dX8_isNameOf_9 (tgt := 76) rfl (fun c9 => ?_) (fun c9 => ?_)
  · replace h := h.1 c9
    refine a_iload_n dX8_isNameOf_76 rfl rfl ?_
    obtain ⟨q77_0, h⟩ := h
    exact a_zret dX8_isNameOf_77 rfl q77_0 (Nat.le_of_ble_eq_true rfl) (Nat.le_of_ble_eq_true rfl) h
  · replace h := h.2 c9
    refine a_aload_n dX8_isNameOf_12 rfl rfl ?_
    refine a_getI dX8_isNameOf_13 fw_RX8_91 rfl rfl (kMod_0 h_r0) ?_
    refine a_iload dX8_isNameOf_16 rfl ?_
    obtain ⟨q18_0, h⟩ := h
    refine a_iadd dX8_isNameOf_18 q18_0 ?_
    refine a_aload_n dX8_isNameOf_19 rfl rfl ?_
    refine a_getI dX8_isNameOf_20 fw_RX8_85 rfl rfl (kMod_0 h_r0) ?_
    refine a_icmp_ge dX8_isNameOf_23 (tgt := 41) rfl (fun c23 => ?_) (fun c23 => ?_)
    · replace h := h.1 c23
      refine a_iconst dX8_isNameOf_41 ⟨by decide, by decide⟩ ?_
      refine a_istore dX8_isNameOf_42 (Nat.le_of_ble_eq_true rfl) (ls' := [vR a0, vR a1, vI x2, vI x3, vI x4, vI 0]) rfl ?_
      refine a_iload_n dX8_isNameOf_44 rfl rfl ?_
      refine a_if_eq dX8_isNameOf_45 (tgt := 68) rfl (fun c45 => ?_) (fun c45 => ?_)
      · replace h := h.1 c45
        refine a_iconst dX8_isNameOf_68 ⟨by decide, by decide⟩ ?_
        refine a_istore_n dX8_isNameOf_69 rfl (Nat.le_of_ble_eq_true rfl) (ls' := [vR a0, vR a1, vI x2, vI 0, vI x4, vI 0]) rfl ?_
        obtain ⟨q70_0, h⟩ := h
        refine a_iinc dX8_isNameOf_70 rfl (Nat.le_of_ble_eq_true rfl) (by decide) q70_0 (ls' := [vR a0, vR a1, vI x2, vI 0, vI (x4 + 1), vI 0]) rfl ?_
        refine a_goto dX8_isNameOf_73 (tgt := 5) rfl ?_
        exact a_weak (wk_e (wk_e (wk_e (wk_e (wk_e (wk_u wk_n)))))) h
      · replace h := h.2 c45
        refine a_aload_n dX8_isNameOf_48 rfl rfl ?_
        refine a_iload_n dX8_isNameOf_49 rfl rfl ?_
        refine a_bipush dX8_isNameOf_50 (by decide) ?_
        refine a_iload dX8_isNameOf_52 rfl ?_
        obtain ⟨q54_0, h⟩ := h
        refine a_iadd dX8_isNameOf_54 q54_0 ?_
        obtain ⟨q55_0, h⟩ := h
        refine a_callS dX8_isNameOf_55 cw_X8_isNameOf_55 (as := [vI x2, vI (10 + x4)]) rfl rfl (Nat.le_refl _) (Nat.le_of_ble_eq_true rfl) (nocov rfl) (Nat.le_of_ble_eq_true rfl) (Nat.le_of_ble_eq_true rfl) (CL.mono (c_at  q55_0) (fun r9 H9 h9 => ?_))
        rw [h9.1, h9.2]
        show AW l G mX8_isNameOf (d + 1) 0 0 Q 58 [vR a0, vR a1, vI x2, vI x3, vI x4, vI 0] [vI (56 + 16 * x2 + (10 + x4)), vR a1] 0 0 H
        obtain ⟨q58_0, h⟩ := h
        refine b_iald dX8_isNameOf_58 (kArr_0 h_r1) (nArr_0 h_r1) q58_0 ?_
        refine a_iload dX8_isNameOf_59 rfl ?_
        refine a_icmp_ne dX8_isNameOf_61 (tgt := 68) rfl (fun c61 => ?_) (fun c61 => ?_)
        · replace h := h.1 c61
          refine a_iconst dX8_isNameOf_68 ⟨by decide, by decide⟩ ?_
          refine a_istore_n dX8_isNameOf_69 rfl (Nat.le_of_ble_eq_true rfl) (ls' := [vR a0, vR a1, vI x2, vI 0, vI x4, vI 0]) rfl ?_
          obtain ⟨q70_0, h⟩ := h
          refine a_iinc dX8_isNameOf_70 rfl (Nat.le_of_ble_eq_true rfl) (by decide) q70_0 (ls' := [vR a0, vR a1, vI x2, vI 0, vI (x4 + 1), vI 0]) rfl ?_
          refine a_goto dX8_isNameOf_73 (tgt := 5) rfl ?_
          exact a_weak (wk_e (wk_e (wk_e (wk_e (wk_e (wk_u wk_n)))))) h
        · replace h := h.2 c61
          refine a_iconst dX8_isNameOf_64 ⟨by decide, by decide⟩ ?_
          refine a_goto dX8_isNameOf_65 (tgt := 69) rfl ?_
          refine a_istore_n dX8_isNameOf_69 rfl (Nat.le_of_ble_eq_true rfl) (ls' := [vR a0, vR a1, vI x2, vI 1, vI x4, vI 0]) rfl ?_
          obtain ⟨q70_0, h⟩ := h
          refine a_iinc dX8_isNameOf_70 rfl (Nat.le_of_ble_eq_true rfl) (by decide) q70_0 (ls' := [vR a0, vR a1, vI x2, vI 1, vI (x4 + 1), vI 0]) rfl ?_
          refine a_goto dX8_isNameOf_73 (tgt := 5) rfl ?_
          exact a_weak (wk_e (wk_e (wk_e (wk_e (wk_e (wk_u wk_n)))))) h
    · replace h := h.2 c23
      refine a_aload_n dX8_isNameOf_26 rfl rfl ?_
      refine a_getR dX8_isNameOf_27 fw_RX8_26 rfl rfl (kMod_0 h_r0) (rMod_0_6 h_r0) ?_
      refine a_aload_n dX8_isNameOf_30 rfl rfl ?_
      refine a_getI dX8_isNameOf_31 fw_RX8_91 rfl rfl (kMod_0 h_r0) ?_
      refine a_iload dX8_isNameOf_34 rfl ?_
      refine a_iadd dX8_isNameOf_36 q18_0 ?_
      obtain ⟨q37_0, h⟩ := h
      refine b_bald dX8_isNameOf_37 (kMod_6 h_r0) (nMod_6 h_r0) q37_0 ?_
      refine a_goto dX8_isNameOf_38 (tgt := 42) rfl ?_
      refine a_istore dX8_isNameOf_42 (Nat.le_of_ble_eq_true rfl) (ls' := [vR a0, vR a1, vI x2, vI x3, vI x4, vI (hg H (a0 + 6) ((hg H a0 9) + x4))]) rfl ?_
      refine a_iload_n dX8_isNameOf_44 rfl rfl ?_
      refine a_if_eq dX8_isNameOf_45 (tgt := 68) rfl (fun c45 => ?_) (fun c45 => ?_)
      · replace h := h.1 c45
        refine a_iconst dX8_isNameOf_68 ⟨by decide, by decide⟩ ?_
        refine a_istore_n dX8_isNameOf_69 rfl (Nat.le_of_ble_eq_true rfl) (ls' := [vR a0, vR a1, vI x2, vI 0, vI x4, vI (hg H (a0 + 6) ((hg H a0 9) + x4))]) rfl ?_
        obtain ⟨q70_0, h⟩ := h
        refine a_iinc dX8_isNameOf_70 rfl (Nat.le_of_ble_eq_true rfl) (by decide) q70_0 (ls' := [vR a0, vR a1, vI x2, vI 0, vI (x4 + 1), vI (hg H (a0 + 6) ((hg H a0 9) + x4))]) rfl ?_
        refine a_goto dX8_isNameOf_73 (tgt := 5) rfl ?_
        exact a_weak (wk_e (wk_e (wk_e (wk_e (wk_e (wk_u wk_n)))))) h
      · replace h := h.2 c45
        refine a_aload_n dX8_isNameOf_48 rfl rfl ?_
        refine a_iload_n dX8_isNameOf_49 rfl rfl ?_
        refine a_bipush dX8_isNameOf_50 (by decide) ?_
        refine a_iload dX8_isNameOf_52 rfl ?_
        obtain ⟨q54_0, h⟩ := h
        refine a_iadd dX8_isNameOf_54 q54_0 ?_
        obtain ⟨q55_0, h⟩ := h
        refine a_callS dX8_isNameOf_55 cw_X8_isNameOf_55 (as := [vI x2, vI (10 + x4)]) rfl rfl (Nat.le_refl _) (Nat.le_of_ble_eq_true rfl) (nocov rfl) (Nat.le_of_ble_eq_true rfl) (Nat.le_of_ble_eq_true rfl) (CL.mono (c_at  q55_0) (fun r9 H9 h9 => ?_))
        rw [h9.1, h9.2]
        show AW l G mX8_isNameOf (d + 1) 0 0 Q 58 [vR a0, vR a1, vI x2, vI x3, vI x4, vI (hg H (a0 + 6) ((hg H a0 9) + x4))] [vI (56 + 16 * x2 + (10 + x4)), vR a1] 0 0 H
        obtain ⟨q58_0, h⟩ := h
        refine b_iald dX8_isNameOf_58 (kArr_0 h_r1) (nArr_0 h_r1) q58_0 ?_
        refine a_iload dX8_isNameOf_59 rfl ?_
        refine a_icmp_ne dX8_isNameOf_61 (tgt := 68) rfl (fun c61 => ?_) (fun c61 => ?_)
        · replace h := h.1 c61
          refine a_iconst dX8_isNameOf_68 ⟨by decide, by decide⟩ ?_
          refine a_istore_n dX8_isNameOf_69 rfl (Nat.le_of_ble_eq_true rfl) (ls' := [vR a0, vR a1, vI x2, vI 0, vI x4, vI (hg H (a0 + 6) ((hg H a0 9) + x4))]) rfl ?_
          obtain ⟨q70_0, h⟩ := h
          refine a_iinc dX8_isNameOf_70 rfl (Nat.le_of_ble_eq_true rfl) (by decide) q70_0 (ls' := [vR a0, vR a1, vI x2, vI 0, vI (x4 + 1), vI (hg H (a0 + 6) ((hg H a0 9) + x4))]) rfl ?_
          refine a_goto dX8_isNameOf_73 (tgt := 5) rfl ?_
          exact a_weak (wk_e (wk_e (wk_e (wk_e (wk_e (wk_u wk_n)))))) h
        · replace h := h.2 c61
          refine a_iconst dX8_isNameOf_64 ⟨by decide, by decide⟩ ?_
          refine a_goto dX8_isNameOf_65 (tgt := 69) rfl ?_
          refine a_istore_n dX8_isNameOf_69 rfl (Nat.le_of_ble_eq_true rfl) (ls' := [vR a0, vR a1, vI x2, vI 1, vI x4, vI (hg H (a0 + 6) ((hg H a0 9) + x4))]) rfl ?_
          obtain ⟨q70_0, h⟩ := h
          refine a_iinc dX8_isNameOf_70 rfl (Nat.le_of_ble_eq_true rfl) (by decide) q70_0 (ls' := [vR a0, vR a1, vI x2, vI 1, vI (x4 + 1), vI (hg H (a0 + 6) ((hg H a0 9) + x4))]) rfl ?_
          refine a_goto dX8_isNameOf_73 (tgt := 5) rfl ?_
          exact a_weak (wk_e (wk_e (wk_e (wk_e (wk_e (wk_u wk_n)))))) h


theorem dX8_findIn_0 : decode cX8_findIn 0 = .ok (.iconst 0, 1) := by decide +kernel
theorem dX8_findIn_1 : decode cX8_findIn 1 = .ok (.istore_n 2, 1) := by decide +kernel
theorem dX8_findIn_2 : decode cX8_findIn 2 = .ok (.iload_n 2, 1) := by decide +kernel
theorem dX8_findIn_3 : decode cX8_findIn 3 = .ok (.aload_n 1, 1) := by decide +kernel
theorem dX8_findIn_4 : decode cX8_findIn 4 = .ok (.bipush 6, 2) := by decide +kernel
theorem dX8_findIn_6 : decode cX8_findIn 6 = .ok (.iaload, 1) := by decide +kernel
theorem dX8_findIn_7 : decode cX8_findIn 7 = .ok (.if_icmp .ge 20, 3) := by decide +kernel
theorem dX8_findIn_10 : decode cX8_findIn 10 = .ok (.aload_n 0, 1) := by decide +kernel
theorem dX8_findIn_11 : decode cX8_findIn 11 = .ok (.aload_n 1, 1) := by decide +kernel
theorem dX8_findIn_12 : decode cX8_findIn 12 = .ok (.iload_n 2, 1) := by decide +kernel
theorem dX8_findIn_13 : decode cX8_findIn 13 = .ok (.invokevirtual 136, 3) := by decide +kernel
theorem dX8_findIn_16 : decode cX8_findIn 16 = .ok (.ifCond .eq 5, 3) := by decide +kernel
theorem dX8_findIn_19 : decode cX8_findIn 19 = .ok (.iload_n 2, 1) := by decide +kernel
theorem dX8_findIn_20 : decode cX8_findIn 20 = .ok (.ireturn, 1) := by decide +kernel
theorem dX8_findIn_21 : decode cX8_findIn 21 = .ok (.iinc 2 1, 3) := by decide +kernel
theorem dX8_findIn_24 : decode cX8_findIn 24 = .ok (.goto (-22), 3) := by decide +kernel
theorem dX8_findIn_27 : decode cX8_findIn 27 = .ok (.iconst (-1), 1) := by decide +kernel
theorem dX8_findIn_28 : decode cX8_findIn 28 = .ok (.ireturn, 1) := by decide +kernel
set_option maxRecDepth 20000 in
theorem s_X8_findIn_0 {l : Launch} {G : GT} {d : Nat} {Q : AV → AH → Prop} {H : AH} {a0 a1 : Int} (h_r0 : Lay LMod H a0) (h_r1 : Lay (LArr 10 440) H a1) (h : AW l G mX8_findIn (d + 1) 0 0 Q 2 [vR a0, vR a1, vI 0] [] 0 0 H) : AW l G mX8_findIn (d + 1) 0 0 Q 0 [vR a0, vR a1, vU] [] 0 0 H := by
  refine a_iconst dX8_findIn_0 ⟨by decide, by decide⟩ ?_
  refine a_istore_n dX8_findIn_1 rfl (Nat.le_of_ble_eq_true rfl) (ls' := [vR a0, vR a1, vI 0]) rfl ?_
  exact h

set_option maxRecDepth 20000 in
theorem s_X8_findIn_2 {l : Launch} {G : GT} {d : Nat} {Q : AV → AH → Prop} {H : AH} {a0 a1 x2 : Int} (h_r0 : Lay LMod H a0) (h_r1 : Lay (LArr 10 440) H a1) (h : ((hg H a1 6) ≤ x2 → Q (vI (-1)) H) ∧ (x2 < (hg H a1 6) → CL l G mX8_isNameOf d 0 0 [vR a0, vR a1, vI x2] H (fun r9 H1 => Lay LMod H1 a0 ∧ Lay (LArr 10 440) H1 a1 ∧ ∃ y1 : Int, r9 = vI y1 ∧ (y1 = 0 → (-2147483648 ≤ x2 + 1 ∧ x2 + 1 ≤ 2147483647) ∧ AW l G mX8_findIn (d + 1) 0 0 Q 2 [vR a0, vR a1, vI (x2 + 1)] [] 0 0 H1) ∧ (¬ y1 = 0 → Q (vI x2) H1)))) : AW l G mX8_findIn (d + 1) 0 0 Q 2 [vR a0, vR a1, vI x2] [] 0 0 H := by
  refine a_iload_n dX8_findIn_2 rfl rfl ?_
  refine a_aload_n dX8_findIn_3 rfl rfl ?_
  refine a_bipush dX8_findIn_4 (by decide) ?_
  refine b_iald dX8_findIn_6 (kArr_0 h_r1) (nArr_0 h_r1) (⟨by decide, by decide⟩) ?_
  refine a_icmp_ge dX8_findIn_7 (tgt := 27) rfl (fun c7 => ?_) (fun c7 => ?_)
  · replace h := h.1 c7
    refine a_iconst dX8_findIn_27 ⟨by decide, by decide⟩ ?_
    exact a_iret dX8_findIn_28 rfl (Nat.le_of_ble_eq_true rfl) (Nat.le_of_ble_eq_true rfl) h
  · replace h := h.2 c7
    refine a_aload_n dX8_findIn_10 rfl rfl ?_
    refine a_aload_n dX8_findIn_11 rfl rfl ?_
    refine a_iload_n dX8_findIn_12 rfl rfl ?_
    refine a_callV dX8_findIn_13 cw_X8_findIn_13 (as := [vR a1, vI x2]) rfl rfl (kMod_0 h_r0) (Nat.le_refl _) (Nat.le_of_ble_eq_true rfl) (nocov rfl) (Nat.le_of_ble_eq_true rfl) (Nat.le_of_ble_eq_true rfl) (CL.mono h (fun r9 H1 h => ?_))
    obtain ⟨h_r0_1, h_r1_1, y1, e9, h⟩ := h
    rw [e9]
    show AW l G mX8_findIn (d + 1) 0 0 Q 16 [vR a0, vR a1, vI x2] [vI y1] 0 0 H1
    refine a_if_eq dX8_findIn_16 (tgt := 21) rfl (fun c16 => ?_) (fun c16 => ?_)
    · replace h := h.1 c16
      obtain ⟨q21_0, h⟩ := h
      refine a_iinc dX8_findIn_21 rfl (Nat.le_of_ble_eq_true rfl) (by decide) q21_0 (ls' := [vR a0, vR a1, vI (x2 + 1)]) rfl ?_
      refine a_goto dX8_findIn_24 (tgt := 2) rfl ?_
      exact h
    · replace h := h.2 c16
      refine a_iload_n dX8_findIn_19 rfl rfl ?_
      exact a_iret dX8_findIn_20 rfl (Nat.le_of_ble_eq_true rfl) (Nat.le_of_ble_eq_true rfl) h


theorem dX8_newName_0 : decode cX8_newName 0 = .ok (.aload_n 0, 1) := by decide +kernel
theorem dX8_newName_1 : decode cX8_newName 1 = .ok (.invokevirtual 121, 3) := by decide +kernel
theorem dX8_newName_4 : decode cX8_newName 4 = .ok (.aload_n 0, 1) := by decide +kernel
theorem dX8_newName_5 : decode cX8_newName 5 = .ok (.getfield 85, 3) := by decide +kernel
theorem dX8_newName_8 : decode cX8_newName 8 = .ok (.aload_n 0, 1) := by decide +kernel
theorem dX8_newName_9 : decode cX8_newName 9 = .ok (.getfield 91, 3) := by decide +kernel
theorem dX8_newName_12 : decode cX8_newName 12 = .ok (.isub, 1) := by decide +kernel
theorem dX8_newName_13 : decode cX8_newName 13 = .ok (.iconst 1, 1) := by decide +kernel
theorem dX8_newName_14 : decode cX8_newName 14 = .ok (.bipush 6, 2) := by decide +kernel
theorem dX8_newName_16 : decode cX8_newName 16 = .ok (.invokestatic 67, 3) := by decide +kernel
theorem dX8_newName_19 : decode cX8_newName 19 = .ok (.ifCond .ne 13, 3) := by decide +kernel
theorem dX8_newName_22 : decode cX8_newName 22 = .ok (.aload_n 0, 1) := by decide +kernel
theorem dX8_newName_23 : decode cX8_newName 23 = .ok (.iconst 1, 1) := by decide +kernel
theorem dX8_newName_24 : decode cX8_newName 24 = .ok (.aload_n 0, 1) := by decide +kernel
theorem dX8_newName_25 : decode cX8_newName 25 = .ok (.getfield 91, 3) := by decide +kernel
theorem dX8_newName_28 : decode cX8_newName 28 = .ok (.invokevirtual 111, 3) := by decide +kernel
theorem dX8_newName_31 : decode cX8_newName 31 = .ok (.return_, 1) := by decide +kernel
theorem dX8_newName_32 : decode cX8_newName 32 = .ok (.aload_n 0, 1) := by decide +kernel
theorem dX8_newName_33 : decode cX8_newName 33 = .ok (.aload_n 0, 1) := by decide +kernel
theorem dX8_newName_34 : decode cX8_newName 34 = .ok (.getfield 13, 3) := by decide +kernel
theorem dX8_newName_37 : decode cX8_newName 37 = .ok (.invokevirtual 140, 3) := by decide +kernel
theorem dX8_newName_40 : decode cX8_newName 40 = .ok (.iconst (-1), 1) := by decide +kernel
theorem dX8_newName_41 : decode cX8_newName 41 = .ok (.if_icmp .eq 13, 3) := by decide +kernel
theorem dX8_newName_44 : decode cX8_newName 44 = .ok (.aload_n 0, 1) := by decide +kernel
theorem dX8_newName_45 : decode cX8_newName 45 = .ok (.iconst 3, 1) := by decide +kernel
theorem dX8_newName_46 : decode cX8_newName 46 = .ok (.aload_n 0, 1) := by decide +kernel
theorem dX8_newName_47 : decode cX8_newName 47 = .ok (.getfield 91, 3) := by decide +kernel
theorem dX8_newName_50 : decode cX8_newName 50 = .ok (.invokevirtual 111, 3) := by decide +kernel
theorem dX8_newName_53 : decode cX8_newName 53 = .ok (.return_, 1) := by decide +kernel
theorem dX8_newName_54 : decode cX8_newName 54 = .ok (.iconst 0, 1) := by decide +kernel
theorem dX8_newName_55 : decode cX8_newName 55 = .ok (.istore_n 2, 1) := by decide +kernel
theorem dX8_newName_56 : decode cX8_newName 56 = .ok (.iload_n 2, 1) := by decide +kernel
theorem dX8_newName_57 : decode cX8_newName 57 = .ok (.bipush 6, 2) := by decide +kernel
theorem dX8_newName_59 : decode cX8_newName 59 = .ok (.if_icmp .ge 50, 3) := by decide +kernel
theorem dX8_newName_62 : decode cX8_newName 62 = .ok (.aload_n 0, 1) := by decide +kernel
theorem dX8_newName_63 : decode cX8_newName 63 = .ok (.getfield 13, 3) := by decide +kernel
theorem dX8_newName_66 : decode cX8_newName 66 = .ok (.iload_n 1, 1) := by decide +kernel
theorem dX8_newName_67 : decode cX8_newName 67 = .ok (.bipush 10, 2) := by decide +kernel
theorem dX8_newName_69 : decode cX8_newName 69 = .ok (.iload_n 2, 1) := by decide +kernel
theorem dX8_newName_70 : decode cX8_newName 70 = .ok (.iadd, 1) := by decide +kernel
theorem dX8_newName_71 : decode cX8_newName 71 = .ok (.invokestatic 59, 3) := by decide +kernel
theorem dX8_newName_74 : decode cX8_newName 74 = .ok (.aload_n 0, 1) := by decide +kernel
theorem dX8_newName_75 : decode cX8_newName 75 = .ok (.getfield 91, 3) := by decide +kernel
theorem dX8_newName_78 : decode cX8_newName 78 = .ok (.iload_n 2, 1) := by decide +kernel
theorem dX8_newName_79 : decode cX8_newName 79 = .ok (.iadd, 1) := by decide +kernel
theorem dX8_newName_80 : decode cX8_newName 80 = .ok (.aload_n 0, 1) := by decide +kernel
theorem dX8_newName_81 : decode cX8_newName 81 = .ok (.getfield 85, 3) := by decide +kernel
theorem dX8_newName_84 : decode cX8_newName 84 = .ok (.if_icmp .ge 17, 3) := by decide +kernel
theorem dX8_newName_87 : decode cX8_newName 87 = .ok (.aload_n 0, 1) := by decide +kernel
theorem dX8_newName_88 : decode cX8_newName 88 = .ok (.getfield 26, 3) := by decide +kernel
theorem dX8_newName_91 : decode cX8_newName 91 = .ok (.aload_n 0, 1) := by decide +kernel
theorem dX8_newName_92 : decode cX8_newName 92 = .ok (.getfield 91, 3) := by decide +kernel
theorem dX8_newName_95 : decode cX8_newName 95 = .ok (.iload_n 2, 1) := by decide +kernel
theorem dX8_newName_96 : decode cX8_newName 96 = .ok (.iadd, 1) := by decide +kernel
theorem dX8_newName_97 : decode cX8_newName 97 = .ok (.baload, 1) := by decide +kernel
theorem dX8_newName_98 : decode cX8_newName 98 = .ok (.goto 4, 3) := by decide +kernel
theorem dX8_newName_101 : decode cX8_newName 101 = .ok (.iconst 0, 1) := by decide +kernel
theorem dX8_newName_102 : decode cX8_newName 102 = .ok (.iastore, 1) := by decide +kernel
theorem dX8_newName_103 : decode cX8_newName 103 = .ok (.iinc 2 1, 3) := by decide +kernel
theorem dX8_newName_106 : decode cX8_newName 106 = .ok (.goto (-50), 3) := by decide +kernel
theorem dX8_newName_109 : decode cX8_newName 109 = .ok (.return_, 1) := by decide +kernel
set_option maxRecDepth 20000 in
theorem s_X8_newName_0 {l : Launch} {G : GT} {d : Nat} {Q : AV → AH → Prop} {H : AH} {a0 x1 : Int} (h_r0 : Lay LMod H a0) (h : CL l G mX8_reads d 0 0 [vR a0] H (fun r9 H1 => Lay LMod H1 a0 ∧ r9 = vV ∧ (-2147483648 ≤ (hg H1 a0 8) - (hg H1 a0 9) ∧ (hg H1 a0 8) - (hg H1 a0 9) ≤ 2147483647) ∧ (1 ≤ ((hg H1 a0 8) - (hg H1 a0 9)) ∧ ((hg H1 a0 8) - (hg H1 a0 9)) ≤ 6 → CL l G mX8_findIn d 0 0 [vR a0, vR (a0 + 2)] H1 (fun r9 H2 => Lay LMod H2 a0 ∧ ∃ y2 : Int, r9 = vI y2 ∧ (y2 = (-1) → AW l G mX8_newName (d + 1) 0 0 Q 56 [vR a0, vI x1, vI 0] [] 0 0 H2) ∧ (¬ y2 = (-1) → CL l G mX8_fails d 0 0 [vR a0, vI 3, vI (hg H2 a0 9)] H2 (fun r9 H3 => Lay LMod H3 a0 ∧ r9 = vV ∧ Q vV H3)))) ∧ (¬ (1 ≤ ((hg H1 a0 8) - (hg H1 a0 9)) ∧ ((hg H1 a0 8) - (hg H1 a0 9)) ≤ 6) → CL l G mX8_fails d 0 0 [vR a0, vI 1, vI (hg H1 a0 9)] H1 (fun r9 H2 => Lay LMod H2 a0 ∧ r9 = vV ∧ Q vV H2)))) : AW l G mX8_newName (d + 1) 0 0 Q 0 [vR a0, vI x1, vU] [] 0 0 H := by
  refine a_aload_n dX8_newName_0 rfl rfl ?_
  refine a_callV dX8_newName_1 cw_X8_newName_1 (as := []) rfl rfl (kMod_0 h_r0) (Nat.le_refl _) (Nat.le_of_ble_eq_true rfl) (nocov rfl) (Nat.le_of_ble_eq_true rfl) (Nat.le_of_ble_eq_true rfl) (CL.mono h (fun r9 H1 h => ?_))
  obtain ⟨h_r0_1, e9, h⟩ := h
  rw [e9]
  show AW l G mX8_newName (d + 1) 0 0 Q 4 [vR a0, vI x1, vU] [] 0 0 H1
  refine a_aload_n dX8_newName_4 rfl rfl ?_
  refine a_getI dX8_newName_5 fw_RX8_85 rfl rfl (kMod_0 h_r0_1) ?_
  refine a_aload_n dX8_newName_8 rfl rfl ?_
  refine a_getI dX8_newName_9 fw_RX8_91 rfl rfl (kMod_0 h_r0_1) ?_
  obtain ⟨q12_0, h⟩ := h
  refine a_isub dX8_newName_12 q12_0 ?_
  refine a_iconst dX8_newName_13 ⟨by decide, by decide⟩ ?_
  refine a_bipush dX8_newName_14 (by decide) ?_
  refine a_callS dX8_newName_16 cw_X8_newName_16 (as := [vI ((hg H1 a0 8) - (hg H1 a0 9)), vI 1, vI 6]) rfl rfl (Nat.le_refl _) (Nat.le_of_ble_eq_true rfl) (nocov rfl) (Nat.le_of_ble_eq_true rfl) (Nat.le_of_ble_eq_true rfl) (CL.mono (c_in  ) (fun r9 H9 h9 => ?_))
  rw [h9.1, h9.2]
  show AW l G mX8_newName (d + 1) 0 0 Q 19 [vR a0, vI x1, vU] [vI (bi (decide (1 ≤ ((hg H1 a0 8) - (hg H1 a0 9)) ∧ ((hg H1 a0 8) - (hg H1 a0 9)) ≤ 6)))] 0 0 H1
  refine a_if_ne dX8_newName_19 (tgt := 32) rfl (fun c19 => ?_) (fun c19 => ?_)
  · replace h := h.1 (bi_1 c19)
    refine a_aload_n dX8_newName_32 rfl rfl ?_
    refine a_aload_n dX8_newName_33 rfl rfl ?_
    refine a_getR dX8_newName_34 fw_RX8_13 rfl rfl (kMod_0 h_r0_1) (rMod_0_1 h_r0_1) ?_
    refine a_callV dX8_newName_37 cw_X8_newName_37 (as := [vR (a0 + 2)]) rfl rfl (kMod_0 h_r0_1) (Nat.le_refl _) (Nat.le_of_ble_eq_true rfl) (nocov rfl) (Nat.le_of_ble_eq_true rfl) (Nat.le_of_ble_eq_true rfl) (CL.mono h (fun r9 H2 h => ?_))
    obtain ⟨h_r0_2, y2, e9, h⟩ := h
    rw [e9]
    show AW l G mX8_newName (d + 1) 0 0 Q 40 [vR a0, vI x1, vU] [vI y2] 0 0 H2
    refine a_iconst dX8_newName_40 ⟨by decide, by decide⟩ ?_
    refine a_icmp_eq dX8_newName_41 (tgt := 54) rfl (fun c41 => ?_) (fun c41 => ?_)
    · replace h := h.1 c41
      refine a_iconst dX8_newName_54 ⟨by decide, by decide⟩ ?_
      refine a_istore_n dX8_newName_55 rfl (Nat.le_of_ble_eq_true rfl) (ls' := [vR a0, vI x1, vI 0]) rfl ?_
      exact h
    · replace h := h.2 c41
      refine a_aload_n dX8_newName_44 rfl rfl ?_
      refine a_iconst dX8_newName_45 ⟨by decide, by decide⟩ ?_
      refine a_aload_n dX8_newName_46 rfl rfl ?_
      refine a_getI dX8_newName_47 fw_RX8_91 rfl rfl (kMod_0 h_r0_2) ?_
      refine a_callV dX8_newName_50 cw_X8_newName_50 (as := [vI 3, vI (hg H2 a0 9)]) rfl rfl (kMod_0 h_r0_2) (Nat.le_refl _) (Nat.le_of_ble_eq_true rfl) (nocov rfl) (Nat.le_of_ble_eq_true rfl) (Nat.le_of_ble_eq_true rfl) (CL.mono h (fun r9 H3 h => ?_))
      obtain ⟨h_r0_3, e9, h⟩ := h
      rw [e9]
      show AW l G mX8_newName (d + 1) 0 0 Q 53 [vR a0, vI x1, vU] [] 0 0 H3
      exact a_vret dX8_newName_53 rfl (Nat.le_of_ble_eq_true rfl) (Nat.le_of_ble_eq_true rfl) h
  · replace h := h.2 (bi_0 c19)
    refine a_aload_n dX8_newName_22 rfl rfl ?_
    refine a_iconst dX8_newName_23 ⟨by decide, by decide⟩ ?_
    refine a_aload_n dX8_newName_24 rfl rfl ?_
    refine a_getI dX8_newName_25 fw_RX8_91 rfl rfl (kMod_0 h_r0_1) ?_
    refine a_callV dX8_newName_28 cw_X8_newName_28 (as := [vI 1, vI (hg H1 a0 9)]) rfl rfl (kMod_0 h_r0_1) (Nat.le_refl _) (Nat.le_of_ble_eq_true rfl) (nocov rfl) (Nat.le_of_ble_eq_true rfl) (Nat.le_of_ble_eq_true rfl) (CL.mono h (fun r9 H2 h => ?_))
    obtain ⟨h_r0_2, e9, h⟩ := h
    rw [e9]
    show AW l G mX8_newName (d + 1) 0 0 Q 31 [vR a0, vI x1, vU] [] 0 0 H2
    exact a_vret dX8_newName_31 rfl (Nat.le_of_ble_eq_true rfl) (Nat.le_of_ble_eq_true rfl) h

set_option maxRecDepth 20000 in
theorem s_X8_newName_56 {l : Launch} {G : GT} {d : Nat} {Q : AV → AH → Prop} {H : AH} {a0 x1 x2 : Int} (h_r0 : Lay LMod H a0) (h : (6 ≤ x2 → Q vV H) ∧ (x2 < 6 → (-2147483648 ≤ 10 + x2 ∧ 10 + x2 ≤ 2147483647) ∧ (0 ≤ x1 ∧ x1 ≤ 30 ∧ 0 ≤ (10 + x2) ∧ (10 + x2) ≤ 30) ∧ (-2147483648 ≤ (hg H a0 9) + x2 ∧ (hg H a0 9) + x2 ≤ 2147483647) ∧ ((hg H a0 8) ≤ ((hg H a0 9) + x2) → (0 ≤ (56 + 16 * x1 + (10 + x2)) ∧ (56 + 16 * x1 + (10 + x2)) < 440) ∧ ∀ H1 : AH, H1 = hs H (a0 + 2) (56 + 16 * x1 + (10 + x2)) 0 → (-2147483648 ≤ x2 + 1 ∧ x2 + 1 ≤ 2147483647) ∧ AW l G mX8_newName (d + 1) 0 0 Q 56 [vR a0, vI x1, vI (x2 + 1)] [] 0 0 H1) ∧ (((hg H a0 9) + x2) < (hg H a0 8) → (0 ≤ ((hg H a0 9) + x2) ∧ ((hg H a0 9) + x2) < 900) ∧ (0 ≤ (56 + 16 * x1 + (10 + x2)) ∧ (56 + 16 * x1 + (10 + x2)) < 440) ∧ ∀ H1 : AH, H1 = hs H (a0 + 2) (56 + 16 * x1 + (10 + x2)) (hg H (a0 + 6) ((hg H a0 9) + x2)) → (-2147483648 ≤ x2 + 1 ∧ x2 + 1 ≤ 2147483647) ∧ AW l G mX8_newName (d + 1) 0 0 Q 56 [vR a0, vI x1, vI (x2 + 1)] [] 0 0 H1))) : AW l G mX8_newName (d + 1) 0 0 Q 56 [vR a0, vI x1, vI x2] [] 0 0 H := by
  refine a_iload_n dX8_newName_56 rfl rfl ?_
  refine a_bipush dX8_newName_57 (by decide) ?_
  refine a_icmp_ge dX8_newName_59 (tgt := 109) rfl (fun c59 => ?_) (fun c59 => ?_)
  · replace h := h.1 c59
    exact a_vret dX8_newName_109 rfl (Nat.le_of_ble_eq_true rfl) (Nat.le_of_ble_eq_true rfl) h
  · replace h := h.2 c59
    refine a_aload_n dX8_newName_62 rfl rfl ?_
    refine a_getR dX8_newName_63 fw_RX8_13 rfl rfl (kMod_0 h_r0) (rMod_0_1 h_r0) ?_
    refine a_iload_n dX8_newName_66 rfl rfl ?_
    refine a_bipush dX8_newName_67 (by decide) ?_
    refine a_iload_n dX8_newName_69 rfl rfl ?_
    obtain ⟨q70_0, h⟩ := h
    refine a_iadd dX8_newName_70 q70_0 ?_
    obtain ⟨q71_0, h⟩ := h
    refine a_callS dX8_newName_71 cw_X8_newName_71 (as := [vI x1, vI (10 + x2)]) rfl rfl (Nat.le_refl _) (Nat.le_of_ble_eq_true rfl) (nocov rfl) (Nat.le_of_ble_eq_true rfl) (Nat.le_of_ble_eq_true rfl) (CL.mono (c_at  q71_0) (fun r9 H9 h9 => ?_))
    rw [h9.1, h9.2]
    show AW l G mX8_newName (d + 1) 0 0 Q 74 [vR a0, vI x1, vI x2] [vI (56 + 16 * x1 + (10 + x2)), vR (a0 + 2)] 0 0 H
    refine a_aload_n dX8_newName_74 rfl rfl ?_
    refine a_getI dX8_newName_75 fw_RX8_91 rfl rfl (kMod_0 h_r0) ?_
    refine a_iload_n dX8_newName_78 rfl rfl ?_
    obtain ⟨q79_0, h⟩ := h
    refine a_iadd dX8_newName_79 q79_0 ?_
    refine a_aload_n dX8_newName_80 rfl rfl ?_
    refine a_getI dX8_newName_81 fw_RX8_85 rfl rfl (kMod_0 h_r0) ?_
    refine a_icmp_ge dX8_newName_84 (tgt := 101) rfl (fun c84 => ?_) (fun c84 => ?_)
    · replace h := h.1 c84
      refine a_iconst dX8_newName_101 ⟨by decide, by decide⟩ ?_
      obtain ⟨q102_0, h⟩ := h
      refine b_iast dX8_newName_102 (kMod_2 h_r0) (nMod_2 h_r0) q102_0 ?_
      have h_r0_1 := Lay.wr h_r0 ok_Mod (nrf_arr (kMod_2 h_r0) (by decide) (by decide)) (i := (56 + 16 * x1 + (10 + x2))) (x := 0)
      generalize e_H1 : hs H (a0 + 2) (56 + 16 * x1 + (10 + x2)) 0 = H1 at h_r0_1 ⊢
      replace h := h H1 e_H1.symm
      obtain ⟨q103_0, h⟩ := h
      refine a_iinc dX8_newName_103 rfl (Nat.le_of_ble_eq_true rfl) (by decide) q103_0 (ls' := [vR a0, vI x1, vI (x2 + 1)]) rfl ?_
      refine a_goto dX8_newName_106 (tgt := 56) rfl ?_
      exact h
    · replace h := h.2 c84
      refine a_aload_n dX8_newName_87 rfl rfl ?_
      refine a_getR dX8_newName_88 fw_RX8_26 rfl rfl (kMod_0 h_r0) (rMod_0_6 h_r0) ?_
      refine a_aload_n dX8_newName_91 rfl rfl ?_
      refine a_getI dX8_newName_92 fw_RX8_91 rfl rfl (kMod_0 h_r0) ?_
      refine a_iload_n dX8_newName_95 rfl rfl ?_
      refine a_iadd dX8_newName_96 q79_0 ?_
      obtain ⟨q97_0, h⟩ := h
      refine b_bald dX8_newName_97 (kMod_6 h_r0) (nMod_6 h_r0) q97_0 ?_
      refine a_goto dX8_newName_98 (tgt := 102) rfl ?_
      obtain ⟨q102_0, h⟩ := h
      refine b_iast dX8_newName_102 (kMod_2 h_r0) (nMod_2 h_r0) q102_0 ?_
      have h_r0_1 := Lay.wr h_r0 ok_Mod (nrf_arr (kMod_2 h_r0) (by decide) (by decide)) (i := (56 + 16 * x1 + (10 + x2))) (x := (hg H (a0 + 6) ((hg H a0 9) + x2)))
      generalize e_H1 : hs H (a0 + 2) (56 + 16 * x1 + (10 + x2)) (hg H (a0 + 6) ((hg H a0 9) + x2)) = H1 at h_r0_1 ⊢
      replace h := h H1 e_H1.symm
      obtain ⟨q103_0, h⟩ := h
      refine a_iinc dX8_newName_103 rfl (Nat.le_of_ble_eq_true rfl) (by decide) q103_0 (ls' := [vR a0, vI x1, vI (x2 + 1)]) rfl ?_
      refine a_goto dX8_newName_106 (tgt := 56) rfl ?_
      exact h


theorem dX8_flightPart_0 : decode cX8_flightPart 0 = .ok (.aload_n 0, 1) := by decide +kernel
theorem dX8_flightPart_1 : decode cX8_flightPart 1 = .ok (.getfield 13, 3) := by decide +kernel
theorem dX8_flightPart_4 : decode cX8_flightPart 4 = .ok (.bipush 6, 2) := by decide +kernel
theorem dX8_flightPart_6 : decode cX8_flightPart 6 = .ok (.iaload, 1) := by decide +kernel
theorem dX8_flightPart_7 : decode cX8_flightPart 7 = .ok (.bipush 24, 2) := by decide +kernel
theorem dX8_flightPart_9 : decode cX8_flightPart 9 = .ok (.if_icmp .ne 13, 3) := by decide +kernel
theorem dX8_flightPart_12 : decode cX8_flightPart 12 = .ok (.aload_n 0, 1) := by decide +kernel
theorem dX8_flightPart_13 : decode cX8_flightPart 13 = .ok (.iconst 4, 1) := by decide +kernel
theorem dX8_flightPart_14 : decode cX8_flightPart 14 = .ok (.aload_n 0, 1) := by decide +kernel
theorem dX8_flightPart_15 : decode cX8_flightPart 15 = .ok (.getfield 91, 3) := by decide +kernel
theorem dX8_flightPart_18 : decode cX8_flightPart 18 = .ok (.invokevirtual 111, 3) := by decide +kernel
theorem dX8_flightPart_21 : decode cX8_flightPart 21 = .ok (.return_, 1) := by decide +kernel
theorem dX8_flightPart_22 : decode cX8_flightPart 22 = .ok (.aload_n 0, 1) := by decide +kernel
theorem dX8_flightPart_23 : decode cX8_flightPart 23 = .ok (.getfield 13, 3) := by decide +kernel
theorem dX8_flightPart_26 : decode cX8_flightPart 26 = .ok (.bipush 6, 2) := by decide +kernel
theorem dX8_flightPart_28 : decode cX8_flightPart 28 = .ok (.iaload, 1) := by decide +kernel
theorem dX8_flightPart_29 : decode cX8_flightPart 29 = .ok (.istore_n 2, 1) := by decide +kernel
theorem dX8_flightPart_30 : decode cX8_flightPart 30 = .ok (.aload_n 0, 1) := by decide +kernel
theorem dX8_flightPart_31 : decode cX8_flightPart 31 = .ok (.iload_n 2, 1) := by decide +kernel
theorem dX8_flightPart_32 : decode cX8_flightPart 32 = .ok (.invokevirtual 144, 3) := by decide +kernel
theorem dX8_flightPart_35 : decode cX8_flightPart 35 = .ok (.aload_n 0, 1) := by decide +kernel
theorem dX8_flightPart_36 : decode cX8_flightPart 36 = .ok (.getfield 13, 3) := by decide +kernel
theorem dX8_flightPart_39 : decode cX8_flightPart 39 = .ok (.iload_n 2, 1) := by decide +kernel
theorem dX8_flightPart_40 : decode cX8_flightPart 40 = .ok (.iconst 0, 1) := by decide +kernel
theorem dX8_flightPart_41 : decode cX8_flightPart 41 = .ok (.invokestatic 59, 3) := by decide +kernel
theorem dX8_flightPart_44 : decode cX8_flightPart 44 = .ok (.iload_n 1, 1) := by decide +kernel
theorem dX8_flightPart_45 : decode cX8_flightPart 45 = .ok (.ifCond .eq 7, 3) := by decide +kernel
theorem dX8_flightPart_48 : decode cX8_flightPart 48 = .ok (.iconst 1, 1) := by decide +kernel
theorem dX8_flightPart_49 : decode cX8_flightPart 49 = .ok (.goto 4, 3) := by decide +kernel
theorem dX8_flightPart_52 : decode cX8_flightPart 52 = .ok (.iconst 0, 1) := by decide +kernel
theorem dX8_flightPart_53 : decode cX8_flightPart 53 = .ok (.iastore, 1) := by decide +kernel
theorem dX8_flightPart_54 : decode cX8_flightPart 54 = .ok (.aload_n 0, 1) := by decide +kernel
theorem dX8_flightPart_55 : decode cX8_flightPart 55 = .ok (.getfield 13, 3) := by decide +kernel
theorem dX8_flightPart_58 : decode cX8_flightPart 58 = .ok (.iload_n 2, 1) := by decide +kernel
theorem dX8_flightPart_59 : decode cX8_flightPart 59 = .ok (.iconst 1, 1) := by decide +kernel
theorem dX8_flightPart_60 : decode cX8_flightPart 60 = .ok (.invokestatic 59, 3) := by decide +kernel
theorem dX8_flightPart_63 : decode cX8_flightPart 63 = .ok (.aload_n 0, 1) := by decide +kernel
theorem dX8_flightPart_64 : decode cX8_flightPart 64 = .ok (.invokevirtual 148, 3) := by decide +kernel
theorem dX8_flightPart_67 : decode cX8_flightPart 67 = .ok (.iastore, 1) := by decide +kernel
theorem dX8_flightPart_68 : decode cX8_flightPart 68 = .ok (.aload_n 0, 1) := by decide +kernel
theorem dX8_flightPart_69 : decode cX8_flightPart 69 = .ok (.iconst 0, 1) := by decide +kernel
theorem dX8_flightPart_70 : decode cX8_flightPart 70 = .ok (.ldc 151, 2) := by decide +kernel
theorem dX8_flightPart_72 : decode cX8_flightPart 72 = .ok (.invokevirtual 152, 3) := by decide +kernel
theorem dX8_flightPart_75 : decode cX8_flightPart 75 = .ok (.istore_n 3, 1) := by decide +kernel
theorem dX8_flightPart_76 : decode cX8_flightPart 76 = .ok (.aload_n 0, 1) := by decide +kernel
theorem dX8_flightPart_77 : decode cX8_flightPart 77 = .ok (.iload_n 3, 1) := by decide +kernel
theorem dX8_flightPart_78 : decode cX8_flightPart 78 = .ok (.ldc 151, 2) := by decide +kernel
theorem dX8_flightPart_80 : decode cX8_flightPart 80 = .ok (.invokevirtual 152, 3) := by decide +kernel
theorem dX8_flightPart_83 : decode cX8_flightPart 83 = .ok (.istore 4, 2) := by decide +kernel
theorem dX8_flightPart_85 : decode cX8_flightPart 85 = .ok (.aload_n 0, 1) := by decide +kernel
theorem dX8_flightPart_86 : decode cX8_flightPart 86 = .ok (.getfield 13, 3) := by decide +kernel
theorem dX8_flightPart_89 : decode cX8_flightPart 89 = .ok (.iload_n 2, 1) := by decide +kernel
theorem dX8_flightPart_90 : decode cX8_flightPart 90 = .ok (.iconst 2, 1) := by decide +kernel
theorem dX8_flightPart_91 : decode cX8_flightPart 91 = .ok (.invokestatic 59, 3) := by decide +kernel
theorem dX8_flightPart_94 : decode cX8_flightPart 94 = .ok (.iload_n 3, 1) := by decide +kernel
theorem dX8_flightPart_95 : decode cX8_flightPart 95 = .ok (.iastore, 1) := by decide +kernel
theorem dX8_flightPart_96 : decode cX8_flightPart 96 = .ok (.aload_n 0, 1) := by decide +kernel
theorem dX8_flightPart_97 : decode cX8_flightPart 97 = .ok (.getfield 13, 3) := by decide +kernel
theorem dX8_flightPart_100 : decode cX8_flightPart 100 = .ok (.iload_n 2, 1) := by decide +kernel
theorem dX8_flightPart_101 : decode cX8_flightPart 101 = .ok (.iconst 3, 1) := by decide +kernel
theorem dX8_flightPart_102 : decode cX8_flightPart 102 = .ok (.invokestatic 59, 3) := by decide +kernel
theorem dX8_flightPart_105 : decode cX8_flightPart 105 = .ok (.iload 4, 2) := by decide +kernel
theorem dX8_flightPart_107 : decode cX8_flightPart 107 = .ok (.iastore, 1) := by decide +kernel
theorem dX8_flightPart_108 : decode cX8_flightPart 108 = .ok (.aload_n 0, 1) := by decide +kernel
theorem dX8_flightPart_109 : decode cX8_flightPart 109 = .ok (.getfield 13, 3) := by decide +kernel
theorem dX8_flightPart_112 : decode cX8_flightPart 112 = .ok (.iload_n 2, 1) := by decide +kernel
theorem dX8_flightPart_113 : decode cX8_flightPart 113 = .ok (.iconst 4, 1) := by decide +kernel
theorem dX8_flightPart_114 : decode cX8_flightPart 114 = .ok (.invokestatic 59, 3) := by decide +kernel
theorem dX8_flightPart_117 : decode cX8_flightPart 117 = .ok (.aload_n 0, 1) := by decide +kernel
theorem dX8_flightPart_118 : decode cX8_flightPart 118 = .ok (.iload 4, 2) := by decide +kernel
theorem dX8_flightPart_120 : decode cX8_flightPart 120 = .ok (.ldc 151, 2) := by decide +kernel
theorem dX8_flightPart_122 : decode cX8_flightPart 122 = .ok (.invokevirtual 152, 3) := by decide +kernel
theorem dX8_flightPart_125 : decode cX8_flightPart 125 = .ok (.iastore, 1) := by decide +kernel
theorem dX8_flightPart_126 : decode cX8_flightPart 126 = .ok (.aload_n 0, 1) := by decide +kernel
theorem dX8_flightPart_127 : decode cX8_flightPart 127 = .ok (.getfield 13, 3) := by decide +kernel
theorem dX8_flightPart_130 : decode cX8_flightPart 130 = .ok (.iload_n 2, 1) := by decide +kernel
theorem dX8_flightPart_131 : decode cX8_flightPart 131 = .ok (.iconst 5, 1) := by decide +kernel
theorem dX8_flightPart_132 : decode cX8_flightPart 132 = .ok (.invokestatic 59, 3) := by decide +kernel
theorem dX8_flightPart_135 : decode cX8_flightPart 135 = .ok (.aload_n 0, 1) := by decide +kernel
theorem dX8_flightPart_136 : decode cX8_flightPart 136 = .ok (.iconst 1, 1) := by decide +kernel
theorem dX8_flightPart_137 : decode cX8_flightPart 137 = .ok (.iconst 1, 1) := by decide +kernel
theorem dX8_flightPart_138 : decode cX8_flightPart 138 = .ok (.aload_n 0, 1) := by decide +kernel
theorem dX8_flightPart_139 : decode cX8_flightPart 139 = .ok (.getfield 13, 3) := by decide +kernel
theorem dX8_flightPart_142 : decode cX8_flightPart 142 = .ok (.iconst 5, 1) := by decide +kernel
theorem dX8_flightPart_143 : decode cX8_flightPart 143 = .ok (.iaload, 1) := by decide +kernel
theorem dX8_flightPart_144 : decode cX8_flightPart 144 = .ok (.ishl, 1) := by decide +kernel
theorem dX8_flightPart_145 : decode cX8_flightPart 145 = .ok (.iconst 1, 1) := by decide +kernel
theorem dX8_flightPart_146 : decode cX8_flightPart 146 = .ok (.isub, 1) := by decide +kernel
theorem dX8_flightPart_147 : decode cX8_flightPart 147 = .ok (.invokevirtual 152, 3) := by decide +kernel
theorem dX8_flightPart_150 : decode cX8_flightPart 150 = .ok (.iastore, 1) := by decide +kernel
theorem dX8_flightPart_151 : decode cX8_flightPart 151 = .ok (.aload_n 0, 1) := by decide +kernel
theorem dX8_flightPart_152 : decode cX8_flightPart 152 = .ok (.getfield 13, 3) := by decide +kernel
theorem dX8_flightPart_155 : decode cX8_flightPart 155 = .ok (.bipush 6, 2) := by decide +kernel
theorem dX8_flightPart_157 : decode cX8_flightPart 157 = .ok (.dup2, 1) := by decide +kernel
theorem dX8_flightPart_158 : decode cX8_flightPart 158 = .ok (.iaload, 1) := by decide +kernel
theorem dX8_flightPart_159 : decode cX8_flightPart 159 = .ok (.iconst 1, 1) := by decide +kernel
theorem dX8_flightPart_160 : decode cX8_flightPart 160 = .ok (.iadd, 1) := by decide +kernel
theorem dX8_flightPart_161 : decode cX8_flightPart 161 = .ok (.iastore, 1) := by decide +kernel
theorem dX8_flightPart_162 : decode cX8_flightPart 162 = .ok (.return_, 1) := by decide +kernel
set_option maxRecDepth 20000 in
theorem s_X8_flightPart_0 {l : Launch} {G : GT} {d : Nat} {Q : AV → AH → Prop} {H : AH} {a0 x1 : Int} (h_r0 : Lay LMod H a0) (h : (¬ (hg H (a0 + 2) 6) = 24 → CL l G mX8_newName d 0 0 [vR a0, vI (hg H (a0 + 2) 6)] H (fun r9 H1 => Lay LMod H1 a0 ∧ r9 = vV ∧ (0 ≤ (hg H (a0 + 2) 6) ∧ (hg H (a0 + 2) 6) ≤ 30) ∧ (x1 = 0 → (0 ≤ (56 + 16 * (hg H (a0 + 2) 6) + 0) ∧ (56 + 16 * (hg H (a0 + 2) 6) + 0) < 440) ∧ ∀ H2 : AH, H2 = hs H1 (a0 + 2) (56 + 16 * (hg H (a0 + 2) 6) + 0) 0 → CL l G mX8_wakeClass d 0 0 [vR a0] H2 (fun r9 H3 => Lay LMod H3 a0 ∧ ∃ y3 : Int, r9 = vI y3 ∧ (0 ≤ (56 + 16 * (hg H (a0 + 2) 6) + 1) ∧ (56 + 16 * (hg H (a0 + 2) 6) + 1) < 440) ∧ ∀ H4 : AH, H4 = hs H3 (a0 + 2) (56 + 16 * (hg H (a0 + 2) 6) + 1) y3 → CL l G mX8_number d 0 0 [vR a0, vI 0, vI 99999] H4 (fun r9 H5 => Lay LMod H5 a0 ∧ ∃ y5 : Int, r9 = vI y5 ∧ CL l G mX8_number d 0 0 [vR a0, vI y5, vI 99999] H5 (fun r9 H6 => Lay LMod H6 a0 ∧ ∃ y6 : Int, r9 = vI y6 ∧ (0 ≤ (56 + 16 * (hg H (a0 + 2) 6) + 2) ∧ (56 + 16 * (hg H (a0 + 2) 6) + 2) < 440) ∧ ∀ H7 : AH, H7 = hs H6 (a0 + 2) (56 + 16 * (hg H (a0 + 2) 6) + 2) y5 → (0 ≤ (56 + 16 * (hg H (a0 + 2) 6) + 3) ∧ (56 + 16 * (hg H (a0 + 2) 6) + 3) < 440) ∧ ∀ H8 : AH, H8 = hs H7 (a0 + 2) (56 + 16 * (hg H (a0 + 2) 6) + 3) y6 → CL l G mX8_number d 0 0 [vR a0, vI y6, vI 99999] H8 (fun r9 H9 => Lay LMod H9 a0 ∧ ∃ y9 : Int, r9 = vI y9 ∧ (0 ≤ (56 + 16 * (hg H (a0 + 2) 6) + 4) ∧ (56 + 16 * (hg H (a0 + 2) 6) + 4) < 440) ∧ ∀ H10 : AH, H10 = hs H9 (a0 + 2) (56 + 16 * (hg H (a0 + 2) 6) + 4) y9 → (0 ≤ (hg H10 (a0 + 2) 5) ∧ (hg H10 (a0 + 2) 5) ≤ 30) ∧ (-2147483648 ≤ (pw (hg H10 (a0 + 2) 5)) - 1 ∧ (pw (hg H10 (a0 + 2) 5)) - 1 ≤ 2147483647) ∧ CL l G mX8_number d 0 0 [vR a0, vI 1, vI ((pw (hg H10 (a0 + 2) 5)) - 1)] H10 (fun r9 H11 => Lay LMod H11 a0 ∧ ∃ y11 : Int, r9 = vI y11 ∧ (0 ≤ (56 + 16 * (hg H (a0 + 2) 6) + 5) ∧ (56 + 16 * (hg H (a0 + 2) 6) + 5) < 440) ∧ ∀ H12 : AH, H12 = hs H11 (a0 + 2) (56 + 16 * (hg H (a0 + 2) 6) + 5) y11 → (-2147483648 ≤ (hg H12 (a0 + 2) 6) + 1 ∧ (hg H12 (a0 + 2) 6) + 1 ≤ 2147483647) ∧ ∀ H13 : AH, H13 = hs H12 (a0 + 2) 6 ((hg H12 (a0 + 2) 6) + 1) → Q vV H13)))))) ∧ (¬ x1 = 0 → (0 ≤ (56 + 16 * (hg H (a0 + 2) 6) + 0) ∧ (56 + 16 * (hg H (a0 + 2) 6) + 0) < 440) ∧ ∀ H2 : AH, H2 = hs H1 (a0 + 2) (56 + 16 * (hg H (a0 + 2) 6) + 0) 1 → CL l G mX8_wakeClass d 0 0 [vR a0] H2 (fun r9 H3 => Lay LMod H3 a0 ∧ ∃ y3 : Int, r9 = vI y3 ∧ (0 ≤ (56 + 16 * (hg H (a0 + 2) 6) + 1) ∧ (56 + 16 * (hg H (a0 + 2) 6) + 1) < 440) ∧ ∀ H4 : AH, H4 = hs H3 (a0 + 2) (56 + 16 * (hg H (a0 + 2) 6) + 1) y3 → CL l G mX8_number d 0 0 [vR a0, vI 0, vI 99999] H4 (fun r9 H5 => Lay LMod H5 a0 ∧ ∃ y5 : Int, r9 = vI y5 ∧ CL l G mX8_number d 0 0 [vR a0, vI y5, vI 99999] H5 (fun r9 H6 => Lay LMod H6 a0 ∧ ∃ y6 : Int, r9 = vI y6 ∧ (0 ≤ (56 + 16 * (hg H (a0 + 2) 6) + 2) ∧ (56 + 16 * (hg H (a0 + 2) 6) + 2) < 440) ∧ ∀ H7 : AH, H7 = hs H6 (a0 + 2) (56 + 16 * (hg H (a0 + 2) 6) + 2) y5 → (0 ≤ (56 + 16 * (hg H (a0 + 2) 6) + 3) ∧ (56 + 16 * (hg H (a0 + 2) 6) + 3) < 440) ∧ ∀ H8 : AH, H8 = hs H7 (a0 + 2) (56 + 16 * (hg H (a0 + 2) 6) + 3) y6 → CL l G mX8_number d 0 0 [vR a0, vI y6, vI 99999] H8 (fun r9 H9 => Lay LMod H9 a0 ∧ ∃ y9 : Int, r9 = vI y9 ∧ (0 ≤ (56 + 16 * (hg H (a0 + 2) 6) + 4) ∧ (56 + 16 * (hg H (a0 + 2) 6) + 4) < 440) ∧ ∀ H10 : AH, H10 = hs H9 (a0 + 2) (56 + 16 * (hg H (a0 + 2) 6) + 4) y9 → (0 ≤ (hg H10 (a0 + 2) 5) ∧ (hg H10 (a0 + 2) 5) ≤ 30) ∧ (-2147483648 ≤ (pw (hg H10 (a0 + 2) 5)) - 1 ∧ (pw (hg H10 (a0 + 2) 5)) - 1 ≤ 2147483647) ∧ CL l G mX8_number d 0 0 [vR a0, vI 1, vI ((pw (hg H10 (a0 + 2) 5)) - 1)] H10 (fun r9 H11 => Lay LMod H11 a0 ∧ ∃ y11 : Int, r9 = vI y11 ∧ (0 ≤ (56 + 16 * (hg H (a0 + 2) 6) + 5) ∧ (56 + 16 * (hg H (a0 + 2) 6) + 5) < 440) ∧ ∀ H12 : AH, H12 = hs H11 (a0 + 2) (56 + 16 * (hg H (a0 + 2) 6) + 5) y11 → (-2147483648 ≤ (hg H12 (a0 + 2) 6) + 1 ∧ (hg H12 (a0 + 2) 6) + 1 ≤ 2147483647) ∧ ∀ H13 : AH, H13 = hs H12 (a0 + 2) 6 ((hg H12 (a0 + 2) 6) + 1) → Q vV H13)))))))) ∧ ((hg H (a0 + 2) 6) = 24 → CL l G mX8_fails d 0 0 [vR a0, vI 4, vI (hg H a0 9)] H (fun r9 H1 => Lay LMod H1 a0 ∧ r9 = vV ∧ Q vV H1))) : AW l G mX8_flightPart (d + 1) 0 0 Q 0 [vR a0, vI x1, vU, vU, vU] [] 0 0 H := by
  refine a_aload_n dX8_flightPart_0 rfl rfl ?_
  refine a_getR dX8_flightPart_1 fw_RX8_13 rfl rfl (kMod_0 h_r0) (rMod_0_1 h_r0) ?_
  refine a_bipush dX8_flightPart_4 (by decide) ?_
  refine b_iald dX8_flightPart_6 (kMod_2 h_r0) (nMod_2 h_r0) (⟨by decide, by decide⟩) ?_
  refine a_bipush dX8_flightPart_7 (by decide) ?_
  refine a_icmp_ne dX8_flightPart_9 (tgt := 22) rfl (fun c9 => ?_) (fun c9 => ?_)
  · replace h := h.1 c9
    refine a_aload_n dX8_flightPart_22 rfl rfl ?_
    refine a_getR dX8_flightPart_23 fw_RX8_13 rfl rfl (kMod_0 h_r0) (rMod_0_1 h_r0) ?_
    refine a_bipush dX8_flightPart_26 (by decide) ?_
    refine b_iald dX8_flightPart_28 (kMod_2 h_r0) (nMod_2 h_r0) (⟨by decide, by decide⟩) ?_
    refine a_istore_n dX8_flightPart_29 rfl (Nat.le_of_ble_eq_true rfl) (ls' := [vR a0, vI x1, vI (hg H (a0 + 2) 6), vU, vU]) rfl ?_
    refine a_aload_n dX8_flightPart_30 rfl rfl ?_
    refine a_iload_n dX8_flightPart_31 rfl rfl ?_
    refine a_callV dX8_flightPart_32 cw_X8_flightPart_32 (as := [vI (hg H (a0 + 2) 6)]) rfl rfl (kMod_0 h_r0) (Nat.le_refl _) (Nat.le_of_ble_eq_true rfl) (nocov rfl) (Nat.le_of_ble_eq_true rfl) (Nat.le_of_ble_eq_true rfl) (CL.mono h (fun r9 H1 h => ?_))
    obtain ⟨h_r0_1, e9, h⟩ := h
    rw [e9]
    show AW l G mX8_flightPart (d + 1) 0 0 Q 35 [vR a0, vI x1, vI (hg H (a0 + 2) 6), vU, vU] [] 0 0 H1
    refine a_aload_n dX8_flightPart_35 rfl rfl ?_
    refine a_getR dX8_flightPart_36 fw_RX8_13 rfl rfl (kMod_0 h_r0_1) (rMod_0_1 h_r0_1) ?_
    refine a_iload_n dX8_flightPart_39 rfl rfl ?_
    refine a_iconst dX8_flightPart_40 ⟨by decide, by decide⟩ ?_
    obtain ⟨q41_0, h⟩ := h
    refine a_callS dX8_flightPart_41 cw_X8_flightPart_41 (as := [vI (hg H (a0 + 2) 6), vI 0]) rfl rfl (Nat.le_refl _) (Nat.le_of_ble_eq_true rfl) (nocov rfl) (Nat.le_of_ble_eq_true rfl) (Nat.le_of_ble_eq_true rfl) (CL.mono (c_at  ⟨q41_0.1, q41_0.2, by decide, by decide⟩) (fun r9 H9 h9 => ?_))
    rw [h9.1, h9.2]
    show AW l G mX8_flightPart (d + 1) 0 0 Q 44 [vR a0, vI x1, vI (hg H (a0 + 2) 6), vU, vU] [vI (56 + 16 * (hg H (a0 + 2) 6) + 0), vR (a0 + 2)] 0 0 H1
    refine a_iload_n dX8_flightPart_44 rfl rfl ?_
    refine a_if_eq dX8_flightPart_45 (tgt := 52) rfl (fun c45 => ?_) (fun c45 => ?_)
    · replace h := h.1 c45
      refine a_iconst dX8_flightPart_52 ⟨by decide, by decide⟩ ?_
      obtain ⟨q53_0, h⟩ := h
      refine b_iast dX8_flightPart_53 (kMod_2 h_r0_1) (nMod_2 h_r0_1) q53_0 ?_
      have h_r0_2 := Lay.wr h_r0_1 ok_Mod (nrf_arr (kMod_2 h_r0_1) (by decide) (by decide)) (i := (56 + 16 * (hg H (a0 + 2) 6) + 0)) (x := 0)
      generalize e_H2 : hs H1 (a0 + 2) (56 + 16 * (hg H (a0 + 2) 6) + 0) 0 = H2 at h_r0_2 ⊢
      replace h := h H2 e_H2.symm
      refine a_aload_n dX8_flightPart_54 rfl rfl ?_
      refine a_getR dX8_flightPart_55 fw_RX8_13 rfl rfl (kMod_0 h_r0_2) (rMod_0_1 h_r0_2) ?_
      refine a_iload_n dX8_flightPart_58 rfl rfl ?_
      refine a_iconst dX8_flightPart_59 ⟨by decide, by decide⟩ ?_
      refine a_callS dX8_flightPart_60 cw_X8_flightPart_60 (as := [vI (hg H (a0 + 2) 6), vI 1]) rfl rfl (Nat.le_refl _) (Nat.le_of_ble_eq_true rfl) (nocov rfl) (Nat.le_of_ble_eq_true rfl) (Nat.le_of_ble_eq_true rfl) (CL.mono (c_at  ⟨q41_0.1, q41_0.2, by decide, by decide⟩) (fun r9 H9 h9 => ?_))
      rw [h9.1, h9.2]
      show AW l G mX8_flightPart (d + 1) 0 0 Q 63 [vR a0, vI x1, vI (hg H (a0 + 2) 6), vU, vU] [vI (56 + 16 * (hg H (a0 + 2) 6) + 1), vR (a0 + 2)] 0 0 H2
      refine a_aload_n dX8_flightPart_63 rfl rfl ?_
      refine a_callV dX8_flightPart_64 cw_X8_flightPart_64 (as := []) rfl rfl (kMod_0 h_r0_2) (Nat.le_refl _) (Nat.le_of_ble_eq_true rfl) (nocov rfl) (Nat.le_of_ble_eq_true rfl) (Nat.le_of_ble_eq_true rfl) (CL.mono h (fun r9 H3 h => ?_))
      obtain ⟨h_r0_3, y3, e9, h⟩ := h
      rw [e9]
      show AW l G mX8_flightPart (d + 1) 0 0 Q 67 [vR a0, vI x1, vI (hg H (a0 + 2) 6), vU, vU] [vI y3, vI (56 + 16 * (hg H (a0 + 2) 6) + 1), vR (a0 + 2)] 0 0 H3
      obtain ⟨q67_0, h⟩ := h
      refine b_iast dX8_flightPart_67 (kMod_2 h_r0_3) (nMod_2 h_r0_3) q67_0 ?_
      have h_r0_4 := Lay.wr h_r0_3 ok_Mod (nrf_arr (kMod_2 h_r0_3) (by decide) (by decide)) (i := (56 + 16 * (hg H (a0 + 2) 6) + 1)) (x := y3)
      generalize e_H4 : hs H3 (a0 + 2) (56 + 16 * (hg H (a0 + 2) 6) + 1) y3 = H4 at h_r0_4 ⊢
      replace h := h H4 e_H4.symm
      refine a_aload_n dX8_flightPart_68 rfl rfl ?_
      refine a_iconst dX8_flightPart_69 ⟨by decide, by decide⟩ ?_
      refine a_ldc dX8_flightPart_70 (w_1379) ?_
      show AW l G mX8_flightPart (d + 1) 0 0 Q 72 [vR a0, vI x1, vI (hg H (a0 + 2) 6), vU, vU] [vI 99999, vI 0, vR a0] 0 0 H4
      refine a_callV dX8_flightPart_72 cw_X8_flightPart_72 (as := [vI 0, vI 99999]) rfl rfl (kMod_0 h_r0_4) (Nat.le_refl _) (Nat.le_of_ble_eq_true rfl) (nocov rfl) (Nat.le_of_ble_eq_true rfl) (Nat.le_of_ble_eq_true rfl) (CL.mono h (fun r9 H5 h => ?_))
      obtain ⟨h_r0_5, y5, e9, h⟩ := h
      rw [e9]
      show AW l G mX8_flightPart (d + 1) 0 0 Q 75 [vR a0, vI x1, vI (hg H (a0 + 2) 6), vU, vU] [vI y5] 0 0 H5
      refine a_istore_n dX8_flightPart_75 rfl (Nat.le_of_ble_eq_true rfl) (ls' := [vR a0, vI x1, vI (hg H (a0 + 2) 6), vI y5, vU]) rfl ?_
      refine a_aload_n dX8_flightPart_76 rfl rfl ?_
      refine a_iload_n dX8_flightPart_77 rfl rfl ?_
      refine a_ldc dX8_flightPart_78 (w_1379) ?_
      show AW l G mX8_flightPart (d + 1) 0 0 Q 80 [vR a0, vI x1, vI (hg H (a0 + 2) 6), vI y5, vU] [vI 99999, vI y5, vR a0] 0 0 H5
      refine a_callV dX8_flightPart_80 cw_X8_flightPart_80 (as := [vI y5, vI 99999]) rfl rfl (kMod_0 h_r0_5) (Nat.le_refl _) (Nat.le_of_ble_eq_true rfl) (nocov rfl) (Nat.le_of_ble_eq_true rfl) (Nat.le_of_ble_eq_true rfl) (CL.mono h (fun r9 H6 h => ?_))
      obtain ⟨h_r0_6, y6, e9, h⟩ := h
      rw [e9]
      show AW l G mX8_flightPart (d + 1) 0 0 Q 83 [vR a0, vI x1, vI (hg H (a0 + 2) 6), vI y5, vU] [vI y6] 0 0 H6
      refine a_istore dX8_flightPart_83 (Nat.le_of_ble_eq_true rfl) (ls' := [vR a0, vI x1, vI (hg H (a0 + 2) 6), vI y5, vI y6]) rfl ?_
      refine a_aload_n dX8_flightPart_85 rfl rfl ?_
      refine a_getR dX8_flightPart_86 fw_RX8_13 rfl rfl (kMod_0 h_r0_6) (rMod_0_1 h_r0_6) ?_
      refine a_iload_n dX8_flightPart_89 rfl rfl ?_
      refine a_iconst dX8_flightPart_90 ⟨by decide, by decide⟩ ?_
      refine a_callS dX8_flightPart_91 cw_X8_flightPart_91 (as := [vI (hg H (a0 + 2) 6), vI 2]) rfl rfl (Nat.le_refl _) (Nat.le_of_ble_eq_true rfl) (nocov rfl) (Nat.le_of_ble_eq_true rfl) (Nat.le_of_ble_eq_true rfl) (CL.mono (c_at  ⟨q41_0.1, q41_0.2, by decide, by decide⟩) (fun r9 H9 h9 => ?_))
      rw [h9.1, h9.2]
      show AW l G mX8_flightPart (d + 1) 0 0 Q 94 [vR a0, vI x1, vI (hg H (a0 + 2) 6), vI y5, vI y6] [vI (56 + 16 * (hg H (a0 + 2) 6) + 2), vR (a0 + 2)] 0 0 H6
      refine a_iload_n dX8_flightPart_94 rfl rfl ?_
      obtain ⟨q95_0, h⟩ := h
      refine b_iast dX8_flightPart_95 (kMod_2 h_r0_6) (nMod_2 h_r0_6) q95_0 ?_
      have h_r0_7 := Lay.wr h_r0_6 ok_Mod (nrf_arr (kMod_2 h_r0_6) (by decide) (by decide)) (i := (56 + 16 * (hg H (a0 + 2) 6) + 2)) (x := y5)
      generalize e_H7 : hs H6 (a0 + 2) (56 + 16 * (hg H (a0 + 2) 6) + 2) y5 = H7 at h_r0_7 ⊢
      replace h := h H7 e_H7.symm
      refine a_aload_n dX8_flightPart_96 rfl rfl ?_
      refine a_getR dX8_flightPart_97 fw_RX8_13 rfl rfl (kMod_0 h_r0_7) (rMod_0_1 h_r0_7) ?_
      refine a_iload_n dX8_flightPart_100 rfl rfl ?_
      refine a_iconst dX8_flightPart_101 ⟨by decide, by decide⟩ ?_
      refine a_callS dX8_flightPart_102 cw_X8_flightPart_102 (as := [vI (hg H (a0 + 2) 6), vI 3]) rfl rfl (Nat.le_refl _) (Nat.le_of_ble_eq_true rfl) (nocov rfl) (Nat.le_of_ble_eq_true rfl) (Nat.le_of_ble_eq_true rfl) (CL.mono (c_at  ⟨q41_0.1, q41_0.2, by decide, by decide⟩) (fun r9 H9 h9 => ?_))
      rw [h9.1, h9.2]
      show AW l G mX8_flightPart (d + 1) 0 0 Q 105 [vR a0, vI x1, vI (hg H (a0 + 2) 6), vI y5, vI y6] [vI (56 + 16 * (hg H (a0 + 2) 6) + 3), vR (a0 + 2)] 0 0 H7
      refine a_iload dX8_flightPart_105 rfl ?_
      obtain ⟨q107_0, h⟩ := h
      refine b_iast dX8_flightPart_107 (kMod_2 h_r0_7) (nMod_2 h_r0_7) q107_0 ?_
      have h_r0_8 := Lay.wr h_r0_7 ok_Mod (nrf_arr (kMod_2 h_r0_7) (by decide) (by decide)) (i := (56 + 16 * (hg H (a0 + 2) 6) + 3)) (x := y6)
      generalize e_H8 : hs H7 (a0 + 2) (56 + 16 * (hg H (a0 + 2) 6) + 3) y6 = H8 at h_r0_8 ⊢
      replace h := h H8 e_H8.symm
      refine a_aload_n dX8_flightPart_108 rfl rfl ?_
      refine a_getR dX8_flightPart_109 fw_RX8_13 rfl rfl (kMod_0 h_r0_8) (rMod_0_1 h_r0_8) ?_
      refine a_iload_n dX8_flightPart_112 rfl rfl ?_
      refine a_iconst dX8_flightPart_113 ⟨by decide, by decide⟩ ?_
      refine a_callS dX8_flightPart_114 cw_X8_flightPart_114 (as := [vI (hg H (a0 + 2) 6), vI 4]) rfl rfl (Nat.le_refl _) (Nat.le_of_ble_eq_true rfl) (nocov rfl) (Nat.le_of_ble_eq_true rfl) (Nat.le_of_ble_eq_true rfl) (CL.mono (c_at  ⟨q41_0.1, q41_0.2, by decide, by decide⟩) (fun r9 H9 h9 => ?_))
      rw [h9.1, h9.2]
      show AW l G mX8_flightPart (d + 1) 0 0 Q 117 [vR a0, vI x1, vI (hg H (a0 + 2) 6), vI y5, vI y6] [vI (56 + 16 * (hg H (a0 + 2) 6) + 4), vR (a0 + 2)] 0 0 H8
      refine a_aload_n dX8_flightPart_117 rfl rfl ?_
      refine a_iload dX8_flightPart_118 rfl ?_
      refine a_ldc dX8_flightPart_120 (w_1379) ?_
      show AW l G mX8_flightPart (d + 1) 0 0 Q 122 [vR a0, vI x1, vI (hg H (a0 + 2) 6), vI y5, vI y6] [vI 99999, vI y6, vR a0, vI (56 + 16 * (hg H (a0 + 2) 6) + 4), vR (a0 + 2)] 0 0 H8
      refine a_callV dX8_flightPart_122 cw_X8_flightPart_122 (as := [vI y6, vI 99999]) rfl rfl (kMod_0 h_r0_8) (Nat.le_refl _) (Nat.le_of_ble_eq_true rfl) (nocov rfl) (Nat.le_of_ble_eq_true rfl) (Nat.le_of_ble_eq_true rfl) (CL.mono h (fun r9 H9 h => ?_))
      obtain ⟨h_r0_9, y9, e9, h⟩ := h
      rw [e9]
      show AW l G mX8_flightPart (d + 1) 0 0 Q 125 [vR a0, vI x1, vI (hg H (a0 + 2) 6), vI y5, vI y6] [vI y9, vI (56 + 16 * (hg H (a0 + 2) 6) + 4), vR (a0 + 2)] 0 0 H9
      obtain ⟨q125_0, h⟩ := h
      refine b_iast dX8_flightPart_125 (kMod_2 h_r0_9) (nMod_2 h_r0_9) q125_0 ?_
      have h_r0_10 := Lay.wr h_r0_9 ok_Mod (nrf_arr (kMod_2 h_r0_9) (by decide) (by decide)) (i := (56 + 16 * (hg H (a0 + 2) 6) + 4)) (x := y9)
      generalize e_H10 : hs H9 (a0 + 2) (56 + 16 * (hg H (a0 + 2) 6) + 4) y9 = H10 at h_r0_10 ⊢
      replace h := h H10 e_H10.symm
      refine a_aload_n dX8_flightPart_126 rfl rfl ?_
      refine a_getR dX8_flightPart_127 fw_RX8_13 rfl rfl (kMod_0 h_r0_10) (rMod_0_1 h_r0_10) ?_
      refine a_iload_n dX8_flightPart_130 rfl rfl ?_
      refine a_iconst dX8_flightPart_131 ⟨by decide, by decide⟩ ?_
      refine a_callS dX8_flightPart_132 cw_X8_flightPart_132 (as := [vI (hg H (a0 + 2) 6), vI 5]) rfl rfl (Nat.le_refl _) (Nat.le_of_ble_eq_true rfl) (nocov rfl) (Nat.le_of_ble_eq_true rfl) (Nat.le_of_ble_eq_true rfl) (CL.mono (c_at  ⟨q41_0.1, q41_0.2, by decide, by decide⟩) (fun r9 H9 h9 => ?_))
      rw [h9.1, h9.2]
      show AW l G mX8_flightPart (d + 1) 0 0 Q 135 [vR a0, vI x1, vI (hg H (a0 + 2) 6), vI y5, vI y6] [vI (56 + 16 * (hg H (a0 + 2) 6) + 5), vR (a0 + 2)] 0 0 H10
      refine a_aload_n dX8_flightPart_135 rfl rfl ?_
      refine a_iconst dX8_flightPart_136 ⟨by decide, by decide⟩ ?_
      refine a_iconst dX8_flightPart_137 ⟨by decide, by decide⟩ ?_
      refine a_aload_n dX8_flightPart_138 rfl rfl ?_
      refine a_getR dX8_flightPart_139 fw_RX8_13 rfl rfl (kMod_0 h_r0_10) (rMod_0_1 h_r0_10) ?_
      refine a_iconst dX8_flightPart_142 ⟨by decide, by decide⟩ ?_
      refine b_iald dX8_flightPart_143 (kMod_2 h_r0_10) (nMod_2 h_r0_10) (⟨by decide, by decide⟩) ?_
      obtain ⟨q144_0, h⟩ := h
      refine a_ishl dX8_flightPart_144 q144_0 ?_
      refine a_iconst dX8_flightPart_145 ⟨by decide, by decide⟩ ?_
      obtain ⟨q146_0, h⟩ := h
      refine a_isub dX8_flightPart_146 q146_0 ?_
      refine a_callV dX8_flightPart_147 cw_X8_flightPart_147 (as := [vI 1, vI ((pw (hg H10 (a0 + 2) 5)) - 1)]) rfl rfl (kMod_0 h_r0_10) (Nat.le_refl _) (Nat.le_of_ble_eq_true rfl) (nocov rfl) (Nat.le_of_ble_eq_true rfl) (Nat.le_of_ble_eq_true rfl) (CL.mono h (fun r9 H11 h => ?_))
      obtain ⟨h_r0_11, y11, e9, h⟩ := h
      rw [e9]
      show AW l G mX8_flightPart (d + 1) 0 0 Q 150 [vR a0, vI x1, vI (hg H (a0 + 2) 6), vI y5, vI y6] [vI y11, vI (56 + 16 * (hg H (a0 + 2) 6) + 5), vR (a0 + 2)] 0 0 H11
      obtain ⟨q150_0, h⟩ := h
      refine b_iast dX8_flightPart_150 (kMod_2 h_r0_11) (nMod_2 h_r0_11) q150_0 ?_
      have h_r0_12 := Lay.wr h_r0_11 ok_Mod (nrf_arr (kMod_2 h_r0_11) (by decide) (by decide)) (i := (56 + 16 * (hg H (a0 + 2) 6) + 5)) (x := y11)
      generalize e_H12 : hs H11 (a0 + 2) (56 + 16 * (hg H (a0 + 2) 6) + 5) y11 = H12 at h_r0_12 ⊢
      replace h := h H12 e_H12.symm
      refine a_aload_n dX8_flightPart_151 rfl rfl ?_
      refine a_getR dX8_flightPart_152 fw_RX8_13 rfl rfl (kMod_0 h_r0_12) (rMod_0_1 h_r0_12) ?_
      refine a_bipush dX8_flightPart_155 (by decide) ?_
      refine a_dup2 dX8_flightPart_157 rfl rfl ?_
      refine b_iald dX8_flightPart_158 (kMod_2 h_r0_12) (nMod_2 h_r0_12) (⟨by decide, by decide⟩) ?_
      refine a_iconst dX8_flightPart_159 ⟨by decide, by decide⟩ ?_
      obtain ⟨q160_0, h⟩ := h
      refine a_iadd dX8_flightPart_160 q160_0 ?_
      refine b_iast dX8_flightPart_161 (kMod_2 h_r0_12) (nMod_2 h_r0_12) (⟨by decide, by decide⟩) ?_
      have h_r0_13 := Lay.wr h_r0_12 ok_Mod (nrf_arr (kMod_2 h_r0_12) (by decide) (by decide)) (i := 6) (x := ((hg H12 (a0 + 2) 6) + 1))
      generalize e_H13 : hs H12 (a0 + 2) 6 ((hg H12 (a0 + 2) 6) + 1) = H13 at h_r0_13 ⊢
      replace h := h H13 e_H13.symm
      exact a_vret dX8_flightPart_162 rfl (Nat.le_of_ble_eq_true rfl) (Nat.le_of_ble_eq_true rfl) h
    · replace h := h.2 c45
      refine a_iconst dX8_flightPart_48 ⟨by decide, by decide⟩ ?_
      refine a_goto dX8_flightPart_49 (tgt := 53) rfl ?_
      obtain ⟨q53_0, h⟩ := h
      refine b_iast dX8_flightPart_53 (kMod_2 h_r0_1) (nMod_2 h_r0_1) q53_0 ?_
      have h_r0_2 := Lay.wr h_r0_1 ok_Mod (nrf_arr (kMod_2 h_r0_1) (by decide) (by decide)) (i := (56 + 16 * (hg H (a0 + 2) 6) + 0)) (x := 1)
      generalize e_H2 : hs H1 (a0 + 2) (56 + 16 * (hg H (a0 + 2) 6) + 0) 1 = H2 at h_r0_2 ⊢
      replace h := h H2 e_H2.symm
      refine a_aload_n dX8_flightPart_54 rfl rfl ?_
      refine a_getR dX8_flightPart_55 fw_RX8_13 rfl rfl (kMod_0 h_r0_2) (rMod_0_1 h_r0_2) ?_
      refine a_iload_n dX8_flightPart_58 rfl rfl ?_
      refine a_iconst dX8_flightPart_59 ⟨by decide, by decide⟩ ?_
      refine a_callS dX8_flightPart_60 cw_X8_flightPart_60 (as := [vI (hg H (a0 + 2) 6), vI 1]) rfl rfl (Nat.le_refl _) (Nat.le_of_ble_eq_true rfl) (nocov rfl) (Nat.le_of_ble_eq_true rfl) (Nat.le_of_ble_eq_true rfl) (CL.mono (c_at  ⟨q41_0.1, q41_0.2, by decide, by decide⟩) (fun r9 H9 h9 => ?_))
      rw [h9.1, h9.2]
      show AW l G mX8_flightPart (d + 1) 0 0 Q 63 [vR a0, vI x1, vI (hg H (a0 + 2) 6), vU, vU] [vI (56 + 16 * (hg H (a0 + 2) 6) + 1), vR (a0 + 2)] 0 0 H2
      refine a_aload_n dX8_flightPart_63 rfl rfl ?_
      refine a_callV dX8_flightPart_64 cw_X8_flightPart_64 (as := []) rfl rfl (kMod_0 h_r0_2) (Nat.le_refl _) (Nat.le_of_ble_eq_true rfl) (nocov rfl) (Nat.le_of_ble_eq_true rfl) (Nat.le_of_ble_eq_true rfl) (CL.mono h (fun r9 H3 h => ?_))
      obtain ⟨h_r0_3, y3, e9, h⟩ := h
      rw [e9]
      show AW l G mX8_flightPart (d + 1) 0 0 Q 67 [vR a0, vI x1, vI (hg H (a0 + 2) 6), vU, vU] [vI y3, vI (56 + 16 * (hg H (a0 + 2) 6) + 1), vR (a0 + 2)] 0 0 H3
      obtain ⟨q67_0, h⟩ := h
      refine b_iast dX8_flightPart_67 (kMod_2 h_r0_3) (nMod_2 h_r0_3) q67_0 ?_
      have h_r0_4 := Lay.wr h_r0_3 ok_Mod (nrf_arr (kMod_2 h_r0_3) (by decide) (by decide)) (i := (56 + 16 * (hg H (a0 + 2) 6) + 1)) (x := y3)
      generalize e_H4 : hs H3 (a0 + 2) (56 + 16 * (hg H (a0 + 2) 6) + 1) y3 = H4 at h_r0_4 ⊢
      replace h := h H4 e_H4.symm
      refine a_aload_n dX8_flightPart_68 rfl rfl ?_
      refine a_iconst dX8_flightPart_69 ⟨by decide, by decide⟩ ?_
      refine a_ldc dX8_flightPart_70 (w_1379) ?_
      show AW l G mX8_flightPart (d + 1) 0 0 Q 72 [vR a0, vI x1, vI (hg H (a0 + 2) 6), vU, vU] [vI 99999, vI 0, vR a0] 0 0 H4
      refine a_callV dX8_flightPart_72 cw_X8_flightPart_72 (as := [vI 0, vI 99999]) rfl rfl (kMod_0 h_r0_4) (Nat.le_refl _) (Nat.le_of_ble_eq_true rfl) (nocov rfl) (Nat.le_of_ble_eq_true rfl) (Nat.le_of_ble_eq_true rfl) (CL.mono h (fun r9 H5 h => ?_))
      obtain ⟨h_r0_5, y5, e9, h⟩ := h
      rw [e9]
      show AW l G mX8_flightPart (d + 1) 0 0 Q 75 [vR a0, vI x1, vI (hg H (a0 + 2) 6), vU, vU] [vI y5] 0 0 H5
      refine a_istore_n dX8_flightPart_75 rfl (Nat.le_of_ble_eq_true rfl) (ls' := [vR a0, vI x1, vI (hg H (a0 + 2) 6), vI y5, vU]) rfl ?_
      refine a_aload_n dX8_flightPart_76 rfl rfl ?_
      refine a_iload_n dX8_flightPart_77 rfl rfl ?_
      refine a_ldc dX8_flightPart_78 (w_1379) ?_
      show AW l G mX8_flightPart (d + 1) 0 0 Q 80 [vR a0, vI x1, vI (hg H (a0 + 2) 6), vI y5, vU] [vI 99999, vI y5, vR a0] 0 0 H5
      refine a_callV dX8_flightPart_80 cw_X8_flightPart_80 (as := [vI y5, vI 99999]) rfl rfl (kMod_0 h_r0_5) (Nat.le_refl _) (Nat.le_of_ble_eq_true rfl) (nocov rfl) (Nat.le_of_ble_eq_true rfl) (Nat.le_of_ble_eq_true rfl) (CL.mono h (fun r9 H6 h => ?_))
      obtain ⟨h_r0_6, y6, e9, h⟩ := h
      rw [e9]
      show AW l G mX8_flightPart (d + 1) 0 0 Q 83 [vR a0, vI x1, vI (hg H (a0 + 2) 6), vI y5, vU] [vI y6] 0 0 H6
      refine a_istore dX8_flightPart_83 (Nat.le_of_ble_eq_true rfl) (ls' := [vR a0, vI x1, vI (hg H (a0 + 2) 6), vI y5, vI y6]) rfl ?_
      refine a_aload_n dX8_flightPart_85 rfl rfl ?_
      refine a_getR dX8_flightPart_86 fw_RX8_13 rfl rfl (kMod_0 h_r0_6) (rMod_0_1 h_r0_6) ?_
      refine a_iload_n dX8_flightPart_89 rfl rfl ?_
      refine a_iconst dX8_flightPart_90 ⟨by decide, by decide⟩ ?_
      refine a_callS dX8_flightPart_91 cw_X8_flightPart_91 (as := [vI (hg H (a0 + 2) 6), vI 2]) rfl rfl (Nat.le_refl _) (Nat.le_of_ble_eq_true rfl) (nocov rfl) (Nat.le_of_ble_eq_true rfl) (Nat.le_of_ble_eq_true rfl) (CL.mono (c_at  ⟨q41_0.1, q41_0.2, by decide, by decide⟩) (fun r9 H9 h9 => ?_))
      rw [h9.1, h9.2]
      show AW l G mX8_flightPart (d + 1) 0 0 Q 94 [vR a0, vI x1, vI (hg H (a0 + 2) 6), vI y5, vI y6] [vI (56 + 16 * (hg H (a0 + 2) 6) + 2), vR (a0 + 2)] 0 0 H6
      refine a_iload_n dX8_flightPart_94 rfl rfl ?_
      obtain ⟨q95_0, h⟩ := h
      refine b_iast dX8_flightPart_95 (kMod_2 h_r0_6) (nMod_2 h_r0_6) q95_0 ?_
      have h_r0_7 := Lay.wr h_r0_6 ok_Mod (nrf_arr (kMod_2 h_r0_6) (by decide) (by decide)) (i := (56 + 16 * (hg H (a0 + 2) 6) + 2)) (x := y5)
      generalize e_H7 : hs H6 (a0 + 2) (56 + 16 * (hg H (a0 + 2) 6) + 2) y5 = H7 at h_r0_7 ⊢
      replace h := h H7 e_H7.symm
      refine a_aload_n dX8_flightPart_96 rfl rfl ?_
      refine a_getR dX8_flightPart_97 fw_RX8_13 rfl rfl (kMod_0 h_r0_7) (rMod_0_1 h_r0_7) ?_
      refine a_iload_n dX8_flightPart_100 rfl rfl ?_
      refine a_iconst dX8_flightPart_101 ⟨by decide, by decide⟩ ?_
      refine a_callS dX8_flightPart_102 cw_X8_flightPart_102 (as := [vI (hg H (a0 + 2) 6), vI 3]) rfl rfl (Nat.le_refl _) (Nat.le_of_ble_eq_true rfl) (nocov rfl) (Nat.le_of_ble_eq_true rfl) (Nat.le_of_ble_eq_true rfl) (CL.mono (c_at  ⟨q41_0.1, q41_0.2, by decide, by decide⟩) (fun r9 H9 h9 => ?_))
      rw [h9.1, h9.2]
      show AW l G mX8_flightPart (d + 1) 0 0 Q 105 [vR a0, vI x1, vI (hg H (a0 + 2) 6), vI y5, vI y6] [vI (56 + 16 * (hg H (a0 + 2) 6) + 3), vR (a0 + 2)] 0 0 H7
      refine a_iload dX8_flightPart_105 rfl ?_
      obtain ⟨q107_0, h⟩ := h
      refine b_iast dX8_flightPart_107 (kMod_2 h_r0_7) (nMod_2 h_r0_7) q107_0 ?_
      have h_r0_8 := Lay.wr h_r0_7 ok_Mod (nrf_arr (kMod_2 h_r0_7) (by decide) (by decide)) (i := (56 + 16 * (hg H (a0 + 2) 6) + 3)) (x := y6)
      generalize e_H8 : hs H7 (a0 + 2) (56 + 16 * (hg H (a0 + 2) 6) + 3) y6 = H8 at h_r0_8 ⊢
      replace h := h H8 e_H8.symm
      refine a_aload_n dX8_flightPart_108 rfl rfl ?_
      refine a_getR dX8_flightPart_109 fw_RX8_13 rfl rfl (kMod_0 h_r0_8) (rMod_0_1 h_r0_8) ?_
      refine a_iload_n dX8_flightPart_112 rfl rfl ?_
      refine a_iconst dX8_flightPart_113 ⟨by decide, by decide⟩ ?_
      refine a_callS dX8_flightPart_114 cw_X8_flightPart_114 (as := [vI (hg H (a0 + 2) 6), vI 4]) rfl rfl (Nat.le_refl _) (Nat.le_of_ble_eq_true rfl) (nocov rfl) (Nat.le_of_ble_eq_true rfl) (Nat.le_of_ble_eq_true rfl) (CL.mono (c_at  ⟨q41_0.1, q41_0.2, by decide, by decide⟩) (fun r9 H9 h9 => ?_))
      rw [h9.1, h9.2]
      show AW l G mX8_flightPart (d + 1) 0 0 Q 117 [vR a0, vI x1, vI (hg H (a0 + 2) 6), vI y5, vI y6] [vI (56 + 16 * (hg H (a0 + 2) 6) + 4), vR (a0 + 2)] 0 0 H8
      refine a_aload_n dX8_flightPart_117 rfl rfl ?_
      refine a_iload dX8_flightPart_118 rfl ?_
      refine a_ldc dX8_flightPart_120 (w_1379) ?_
      show AW l G mX8_flightPart (d + 1) 0 0 Q 122 [vR a0, vI x1, vI (hg H (a0 + 2) 6), vI y5, vI y6] [vI 99999, vI y6, vR a0, vI (56 + 16 * (hg H (a0 + 2) 6) + 4), vR (a0 + 2)] 0 0 H8
      refine a_callV dX8_flightPart_122 cw_X8_flightPart_122 (as := [vI y6, vI 99999]) rfl rfl (kMod_0 h_r0_8) (Nat.le_refl _) (Nat.le_of_ble_eq_true rfl) (nocov rfl) (Nat.le_of_ble_eq_true rfl) (Nat.le_of_ble_eq_true rfl) (CL.mono h (fun r9 H9 h => ?_))
      obtain ⟨h_r0_9, y9, e9, h⟩ := h
      rw [e9]
      show AW l G mX8_flightPart (d + 1) 0 0 Q 125 [vR a0, vI x1, vI (hg H (a0 + 2) 6), vI y5, vI y6] [vI y9, vI (56 + 16 * (hg H (a0 + 2) 6) + 4), vR (a0 + 2)] 0 0 H9
      obtain ⟨q125_0, h⟩ := h
      refine b_iast dX8_flightPart_125 (kMod_2 h_r0_9) (nMod_2 h_r0_9) q125_0 ?_
      have h_r0_10 := Lay.wr h_r0_9 ok_Mod (nrf_arr (kMod_2 h_r0_9) (by decide) (by decide)) (i := (56 + 16 * (hg H (a0 + 2) 6) + 4)) (x := y9)
      generalize e_H10 : hs H9 (a0 + 2) (56 + 16 * (hg H (a0 + 2) 6) + 4) y9 = H10 at h_r0_10 ⊢
      replace h := h H10 e_H10.symm
      refine a_aload_n dX8_flightPart_126 rfl rfl ?_
      refine a_getR dX8_flightPart_127 fw_RX8_13 rfl rfl (kMod_0 h_r0_10) (rMod_0_1 h_r0_10) ?_
      refine a_iload_n dX8_flightPart_130 rfl rfl ?_
      refine a_iconst dX8_flightPart_131 ⟨by decide, by decide⟩ ?_
      refine a_callS dX8_flightPart_132 cw_X8_flightPart_132 (as := [vI (hg H (a0 + 2) 6), vI 5]) rfl rfl (Nat.le_refl _) (Nat.le_of_ble_eq_true rfl) (nocov rfl) (Nat.le_of_ble_eq_true rfl) (Nat.le_of_ble_eq_true rfl) (CL.mono (c_at  ⟨q41_0.1, q41_0.2, by decide, by decide⟩) (fun r9 H9 h9 => ?_))
      rw [h9.1, h9.2]
      show AW l G mX8_flightPart (d + 1) 0 0 Q 135 [vR a0, vI x1, vI (hg H (a0 + 2) 6), vI y5, vI y6] [vI (56 + 16 * (hg H (a0 + 2) 6) + 5), vR (a0 + 2)] 0 0 H10
      refine a_aload_n dX8_flightPart_135 rfl rfl ?_
      refine a_iconst dX8_flightPart_136 ⟨by decide, by decide⟩ ?_
      refine a_iconst dX8_flightPart_137 ⟨by decide, by decide⟩ ?_
      refine a_aload_n dX8_flightPart_138 rfl rfl ?_
      refine a_getR dX8_flightPart_139 fw_RX8_13 rfl rfl (kMod_0 h_r0_10) (rMod_0_1 h_r0_10) ?_
      refine a_iconst dX8_flightPart_142 ⟨by decide, by decide⟩ ?_
      refine b_iald dX8_flightPart_143 (kMod_2 h_r0_10) (nMod_2 h_r0_10) (⟨by decide, by decide⟩) ?_
      obtain ⟨q144_0, h⟩ := h
      refine a_ishl dX8_flightPart_144 q144_0 ?_
      refine a_iconst dX8_flightPart_145 ⟨by decide, by decide⟩ ?_
      obtain ⟨q146_0, h⟩ := h
      refine a_isub dX8_flightPart_146 q146_0 ?_
      refine a_callV dX8_flightPart_147 cw_X8_flightPart_147 (as := [vI 1, vI ((pw (hg H10 (a0 + 2) 5)) - 1)]) rfl rfl (kMod_0 h_r0_10) (Nat.le_refl _) (Nat.le_of_ble_eq_true rfl) (nocov rfl) (Nat.le_of_ble_eq_true rfl) (Nat.le_of_ble_eq_true rfl) (CL.mono h (fun r9 H11 h => ?_))
      obtain ⟨h_r0_11, y11, e9, h⟩ := h
      rw [e9]
      show AW l G mX8_flightPart (d + 1) 0 0 Q 150 [vR a0, vI x1, vI (hg H (a0 + 2) 6), vI y5, vI y6] [vI y11, vI (56 + 16 * (hg H (a0 + 2) 6) + 5), vR (a0 + 2)] 0 0 H11
      obtain ⟨q150_0, h⟩ := h
      refine b_iast dX8_flightPart_150 (kMod_2 h_r0_11) (nMod_2 h_r0_11) q150_0 ?_
      have h_r0_12 := Lay.wr h_r0_11 ok_Mod (nrf_arr (kMod_2 h_r0_11) (by decide) (by decide)) (i := (56 + 16 * (hg H (a0 + 2) 6) + 5)) (x := y11)
      generalize e_H12 : hs H11 (a0 + 2) (56 + 16 * (hg H (a0 + 2) 6) + 5) y11 = H12 at h_r0_12 ⊢
      replace h := h H12 e_H12.symm
      refine a_aload_n dX8_flightPart_151 rfl rfl ?_
      refine a_getR dX8_flightPart_152 fw_RX8_13 rfl rfl (kMod_0 h_r0_12) (rMod_0_1 h_r0_12) ?_
      refine a_bipush dX8_flightPart_155 (by decide) ?_
      refine a_dup2 dX8_flightPart_157 rfl rfl ?_
      refine b_iald dX8_flightPart_158 (kMod_2 h_r0_12) (nMod_2 h_r0_12) (⟨by decide, by decide⟩) ?_
      refine a_iconst dX8_flightPart_159 ⟨by decide, by decide⟩ ?_
      obtain ⟨q160_0, h⟩ := h
      refine a_iadd dX8_flightPart_160 q160_0 ?_
      refine b_iast dX8_flightPart_161 (kMod_2 h_r0_12) (nMod_2 h_r0_12) (⟨by decide, by decide⟩) ?_
      have h_r0_13 := Lay.wr h_r0_12 ok_Mod (nrf_arr (kMod_2 h_r0_12) (by decide) (by decide)) (i := 6) (x := ((hg H12 (a0 + 2) 6) + 1))
      generalize e_H13 : hs H12 (a0 + 2) 6 ((hg H12 (a0 + 2) 6) + 1) = H13 at h_r0_13 ⊢
      replace h := h H13 e_H13.symm
      exact a_vret dX8_flightPart_162 rfl (Nat.le_of_ble_eq_true rfl) (Nat.le_of_ble_eq_true rfl) h
  · replace h := h.2 c9
    refine a_aload_n dX8_flightPart_12 rfl rfl ?_
    refine a_iconst dX8_flightPart_13 ⟨by decide, by decide⟩ ?_
    refine a_aload_n dX8_flightPart_14 rfl rfl ?_
    refine a_getI dX8_flightPart_15 fw_RX8_91 rfl rfl (kMod_0 h_r0) ?_
    refine a_callV dX8_flightPart_18 cw_X8_flightPart_18 (as := [vI 4, vI (hg H a0 9)]) rfl rfl (kMod_0 h_r0) (Nat.le_refl _) (Nat.le_of_ble_eq_true rfl) (nocov rfl) (Nat.le_of_ble_eq_true rfl) (Nat.le_of_ble_eq_true rfl) (CL.mono h (fun r9 H1 h => ?_))
    obtain ⟨h_r0_1, e9, h⟩ := h
    rw [e9]
    show AW l G mX8_flightPart (d + 1) 0 0 Q 21 [vR a0, vI x1, vU, vU, vU] [] 0 0 H1
    exact a_vret dX8_flightPart_21 rfl (Nat.le_of_ble_eq_true rfl) (Nat.le_of_ble_eq_true rfl) h


theorem dX8_statement_0 : decode cX8_statement 0 = .ok (.aload_n 0, 1) := by decide +kernel
theorem dX8_statement_1 : decode cX8_statement 1 = .ok (.invokevirtual 121, 3) := by decide +kernel
theorem dX8_statement_4 : decode cX8_statement 4 = .ok (.aload_n 0, 1) := by decide +kernel
theorem dX8_statement_5 : decode cX8_statement 5 = .ok (.ldc 155, 2) := by decide +kernel
theorem dX8_statement_7 : decode cX8_statement 7 = .ok (.invokevirtual 126, 3) := by decide +kernel
theorem dX8_statement_10 : decode cX8_statement 10 = .ok (.ifCond .eq 37, 3) := by decide +kernel
theorem dX8_statement_13 : decode cX8_statement 13 = .ok (.aload_n 0, 1) := by decide +kernel
theorem dX8_statement_14 : decode cX8_statement 14 = .ok (.invokevirtual 148, 3) := by decide +kernel
theorem dX8_statement_17 : decode cX8_statement 17 = .ok (.istore_n 1, 1) := by decide +kernel
theorem dX8_statement_18 : decode cX8_statement 18 = .ok (.aload_n 0, 1) := by decide +kernel
theorem dX8_statement_19 : decode cX8_statement 19 = .ok (.invokevirtual 148, 3) := by decide +kernel
theorem dX8_statement_22 : decode cX8_statement 22 = .ok (.istore_n 2, 1) := by decide +kernel
theorem dX8_statement_23 : decode cX8_statement 23 = .ok (.aload_n 0, 1) := by decide +kernel
theorem dX8_statement_24 : decode cX8_statement 24 = .ok (.getfield 13, 3) := by decide +kernel
theorem dX8_statement_27 : decode cX8_statement 27 = .ok (.bipush 8, 2) := by decide +kernel
theorem dX8_statement_29 : decode cX8_statement 29 = .ok (.iconst 4, 1) := by decide +kernel
theorem dX8_statement_30 : decode cX8_statement 30 = .ok (.iload_n 1, 1) := by decide +kernel
theorem dX8_statement_31 : decode cX8_statement 31 = .ok (.imul, 1) := by decide +kernel
theorem dX8_statement_32 : decode cX8_statement 32 = .ok (.iadd, 1) := by decide +kernel
theorem dX8_statement_33 : decode cX8_statement 33 = .ok (.iload_n 2, 1) := by decide +kernel
theorem dX8_statement_34 : decode cX8_statement 34 = .ok (.iadd, 1) := by decide +kernel
theorem dX8_statement_35 : decode cX8_statement 35 = .ok (.aload_n 0, 1) := by decide +kernel
theorem dX8_statement_36 : decode cX8_statement 36 = .ok (.iconst 0, 1) := by decide +kernel
theorem dX8_statement_37 : decode cX8_statement 37 = .ok (.sipush 600, 3) := by decide +kernel
theorem dX8_statement_40 : decode cX8_statement 40 = .ok (.invokevirtual 152, 3) := by decide +kernel
theorem dX8_statement_43 : decode cX8_statement 43 = .ok (.iastore, 1) := by decide +kernel
theorem dX8_statement_44 : decode cX8_statement 44 = .ok (.goto 200, 3) := by decide +kernel
theorem dX8_statement_47 : decode cX8_statement 47 = .ok (.aload_n 0, 1) := by decide +kernel
theorem dX8_statement_48 : decode cX8_statement 48 = .ok (.ldc 157, 2) := by decide +kernel
theorem dX8_statement_50 : decode cX8_statement 50 = .ok (.invokevirtual 126, 3) := by decide +kernel
theorem dX8_statement_53 : decode cX8_statement 53 = .ok (.ifCond .eq 20, 3) := by decide +kernel
theorem dX8_statement_56 : decode cX8_statement 56 = .ok (.aload_n 0, 1) := by decide +kernel
theorem dX8_statement_57 : decode cX8_statement 57 = .ok (.getfield 13, 3) := by decide +kernel
theorem dX8_statement_60 : decode cX8_statement 60 = .ok (.iconst 4, 1) := by decide +kernel
theorem dX8_statement_61 : decode cX8_statement 61 = .ok (.aload_n 0, 1) := by decide +kernel
theorem dX8_statement_62 : decode cX8_statement 62 = .ok (.iconst 0, 1) := by decide +kernel
theorem dX8_statement_63 : decode cX8_statement 63 = .ok (.sipush 600, 3) := by decide +kernel
theorem dX8_statement_66 : decode cX8_statement 66 = .ok (.invokevirtual 152, 3) := by decide +kernel
theorem dX8_statement_69 : decode cX8_statement 69 = .ok (.iastore, 1) := by decide +kernel
theorem dX8_statement_70 : decode cX8_statement 70 = .ok (.goto 174, 3) := by decide +kernel
theorem dX8_statement_73 : decode cX8_statement 73 = .ok (.aload_n 0, 1) := by decide +kernel
theorem dX8_statement_74 : decode cX8_statement 74 = .ok (.ldc 159, 2) := by decide +kernel
theorem dX8_statement_76 : decode cX8_statement 76 = .ok (.invokevirtual 126, 3) := by decide +kernel
theorem dX8_statement_79 : decode cX8_statement 79 = .ok (.ifCond .eq 18, 3) := by decide +kernel
theorem dX8_statement_82 : decode cX8_statement 82 = .ok (.aload_n 0, 1) := by decide +kernel
theorem dX8_statement_83 : decode cX8_statement 83 = .ok (.getfield 13, 3) := by decide +kernel
theorem dX8_statement_86 : decode cX8_statement 86 = .ok (.iconst 1, 1) := by decide +kernel
theorem dX8_statement_87 : decode cX8_statement 87 = .ok (.aload_n 0, 1) := by decide +kernel
theorem dX8_statement_88 : decode cX8_statement 88 = .ok (.iconst 0, 1) := by decide +kernel
theorem dX8_statement_89 : decode cX8_statement 89 = .ok (.iconst 4, 1) := by decide +kernel
theorem dX8_statement_90 : decode cX8_statement 90 = .ok (.invokevirtual 152, 3) := by decide +kernel
theorem dX8_statement_93 : decode cX8_statement 93 = .ok (.iastore, 1) := by decide +kernel
theorem dX8_statement_94 : decode cX8_statement 94 = .ok (.goto 150, 3) := by decide +kernel
theorem dX8_statement_97 : decode cX8_statement 97 = .ok (.aload_n 0, 1) := by decide +kernel
theorem dX8_statement_98 : decode cX8_statement 98 = .ok (.ldc 161, 2) := by decide +kernel
theorem dX8_statement_100 : decode cX8_statement 100 = .ok (.invokevirtual 126, 3) := by decide +kernel
theorem dX8_statement_103 : decode cX8_statement 103 = .ok (.ifCond .eq 20, 3) := by decide +kernel
theorem dX8_statement_106 : decode cX8_statement 106 = .ok (.aload_n 0, 1) := by decide +kernel
theorem dX8_statement_107 : decode cX8_statement 107 = .ok (.getfield 13, 3) := by decide +kernel
theorem dX8_statement_110 : decode cX8_statement 110 = .ok (.iconst 2, 1) := by decide +kernel
theorem dX8_statement_111 : decode cX8_statement 111 = .ok (.aload_n 0, 1) := by decide +kernel
theorem dX8_statement_112 : decode cX8_statement 112 = .ok (.iconst 0, 1) := by decide +kernel
theorem dX8_statement_113 : decode cX8_statement 113 = .ok (.sipush 1800, 3) := by decide +kernel
theorem dX8_statement_116 : decode cX8_statement 116 = .ok (.invokevirtual 152, 3) := by decide +kernel
theorem dX8_statement_119 : decode cX8_statement 119 = .ok (.iastore, 1) := by decide +kernel
theorem dX8_statement_120 : decode cX8_statement 120 = .ok (.goto 124, 3) := by decide +kernel
theorem dX8_statement_123 : decode cX8_statement 123 = .ok (.aload_n 0, 1) := by decide +kernel
theorem dX8_statement_124 : decode cX8_statement 124 = .ok (.ldc 163, 2) := by decide +kernel
theorem dX8_statement_126 : decode cX8_statement 126 = .ok (.invokevirtual 126, 3) := by decide +kernel
theorem dX8_statement_129 : decode cX8_statement 129 = .ok (.ifCond .eq 21, 3) := by decide +kernel
theorem dX8_statement_132 : decode cX8_statement 132 = .ok (.aload_n 0, 1) := by decide +kernel
theorem dX8_statement_133 : decode cX8_statement 133 = .ok (.getfield 13, 3) := by decide +kernel
theorem dX8_statement_136 : decode cX8_statement 136 = .ok (.iconst 3, 1) := by decide +kernel
theorem dX8_statement_137 : decode cX8_statement 137 = .ok (.aload_n 0, 1) := by decide +kernel
theorem dX8_statement_138 : decode cX8_statement 138 = .ok (.bipush 60, 2) := by decide +kernel
theorem dX8_statement_140 : decode cX8_statement 140 = .ok (.sipush 3600, 3) := by decide +kernel
theorem dX8_statement_143 : decode cX8_statement 143 = .ok (.invokevirtual 152, 3) := by decide +kernel
theorem dX8_statement_146 : decode cX8_statement 146 = .ok (.iastore, 1) := by decide +kernel
theorem dX8_statement_147 : decode cX8_statement 147 = .ok (.goto 97, 3) := by decide +kernel
theorem dX8_statement_150 : decode cX8_statement 150 = .ok (.aload_n 0, 1) := by decide +kernel
theorem dX8_statement_151 : decode cX8_statement 151 = .ok (.ldc 165, 2) := by decide +kernel
theorem dX8_statement_153 : decode cX8_statement 153 = .ok (.invokevirtual 126, 3) := by decide +kernel
theorem dX8_statement_156 : decode cX8_statement 156 = .ok (.ifCond .eq 45, 3) := by decide +kernel
theorem dX8_statement_159 : decode cX8_statement 159 = .ok (.aload_n 0, 1) := by decide +kernel
theorem dX8_statement_160 : decode cX8_statement 160 = .ok (.invokevirtual 148, 3) := by decide +kernel
theorem dX8_statement_163 : decode cX8_statement 163 = .ok (.istore_n 1, 1) := by decide +kernel
theorem dX8_statement_164 : decode cX8_statement 164 = .ok (.aload_n 0, 1) := by decide +kernel
theorem dX8_statement_165 : decode cX8_statement 165 = .ok (.getfield 13, 3) := by decide +kernel
theorem dX8_statement_168 : decode cX8_statement 168 = .ok (.bipush 24, 2) := by decide +kernel
theorem dX8_statement_170 : decode cX8_statement 170 = .ok (.iload_n 1, 1) := by decide +kernel
theorem dX8_statement_171 : decode cX8_statement 171 = .ok (.iadd, 1) := by decide +kernel
theorem dX8_statement_172 : decode cX8_statement 172 = .ok (.aload_n 0, 1) := by decide +kernel
theorem dX8_statement_173 : decode cX8_statement 173 = .ok (.iconst 0, 1) := by decide +kernel
theorem dX8_statement_174 : decode cX8_statement 174 = .ok (.sipush 9999, 3) := by decide +kernel
theorem dX8_statement_177 : decode cX8_statement 177 = .ok (.invokevirtual 152, 3) := by decide +kernel
theorem dX8_statement_180 : decode cX8_statement 180 = .ok (.iastore, 1) := by decide +kernel
theorem dX8_statement_181 : decode cX8_statement 181 = .ok (.aload_n 0, 1) := by decide +kernel
theorem dX8_statement_182 : decode cX8_statement 182 = .ok (.getfield 13, 3) := by decide +kernel
theorem dX8_statement_185 : decode cX8_statement 185 = .ok (.bipush 28, 2) := by decide +kernel
theorem dX8_statement_187 : decode cX8_statement 187 = .ok (.iload_n 1, 1) := by decide +kernel
theorem dX8_statement_188 : decode cX8_statement 188 = .ok (.iadd, 1) := by decide +kernel
theorem dX8_statement_189 : decode cX8_statement 189 = .ok (.aload_n 0, 1) := by decide +kernel
theorem dX8_statement_190 : decode cX8_statement 190 = .ok (.iconst 0, 1) := by decide +kernel
theorem dX8_statement_191 : decode cX8_statement 191 = .ok (.sipush 9999, 3) := by decide +kernel
theorem dX8_statement_194 : decode cX8_statement 194 = .ok (.invokevirtual 152, 3) := by decide +kernel
theorem dX8_statement_197 : decode cX8_statement 197 = .ok (.iastore, 1) := by decide +kernel
theorem dX8_statement_198 : decode cX8_statement 198 = .ok (.goto 46, 3) := by decide +kernel
theorem dX8_statement_201 : decode cX8_statement 201 = .ok (.aload_n 0, 1) := by decide +kernel
theorem dX8_statement_202 : decode cX8_statement 202 = .ok (.ldc 167, 2) := by decide +kernel
theorem dX8_statement_204 : decode cX8_statement 204 = .ok (.invokevirtual 126, 3) := by decide +kernel
theorem dX8_statement_207 : decode cX8_statement 207 = .ok (.ifCond .eq 11, 3) := by decide +kernel
theorem dX8_statement_210 : decode cX8_statement 210 = .ok (.aload_n 0, 1) := by decide +kernel
theorem dX8_statement_211 : decode cX8_statement 211 = .ok (.iconst 1, 1) := by decide +kernel
theorem dX8_statement_212 : decode cX8_statement 212 = .ok (.invokevirtual 169, 3) := by decide +kernel
theorem dX8_statement_215 : decode cX8_statement 215 = .ok (.goto 29, 3) := by decide +kernel
theorem dX8_statement_218 : decode cX8_statement 218 = .ok (.aload_n 0, 1) := by decide +kernel
theorem dX8_statement_219 : decode cX8_statement 219 = .ok (.ldc 173, 2) := by decide +kernel
theorem dX8_statement_221 : decode cX8_statement 221 = .ok (.invokevirtual 126, 3) := by decide +kernel
theorem dX8_statement_224 : decode cX8_statement 224 = .ok (.ifCond .eq 11, 3) := by decide +kernel
theorem dX8_statement_227 : decode cX8_statement 227 = .ok (.aload_n 0, 1) := by decide +kernel
theorem dX8_statement_228 : decode cX8_statement 228 = .ok (.iconst 0, 1) := by decide +kernel
theorem dX8_statement_229 : decode cX8_statement 229 = .ok (.invokevirtual 169, 3) := by decide +kernel
theorem dX8_statement_232 : decode cX8_statement 232 = .ok (.goto 12, 3) := by decide +kernel
theorem dX8_statement_235 : decode cX8_statement 235 = .ok (.aload_n 0, 1) := by decide +kernel
theorem dX8_statement_236 : decode cX8_statement 236 = .ok (.iconst 1, 1) := by decide +kernel
theorem dX8_statement_237 : decode cX8_statement 237 = .ok (.aload_n 0, 1) := by decide +kernel
theorem dX8_statement_238 : decode cX8_statement 238 = .ok (.getfield 91, 3) := by decide +kernel
theorem dX8_statement_241 : decode cX8_statement 241 = .ok (.invokevirtual 111, 3) := by decide +kernel
theorem dX8_statement_244 : decode cX8_statement 244 = .ok (.return_, 1) := by decide +kernel
set_option maxRecDepth 20000 in
theorem s_X8_statement_0 {l : Launch} {G : GT} {d : Nat} {Q : AV → AH → Prop} {H : AH} {a0 : Int} (hT : gT G) (h_r0 : Lay LMod H a0) (h : CL l G mX8_reads d 0 0 [vR a0] H (fun r9 H1 => Lay LMod H1 a0 ∧ r9 = vV ∧ ∃ w5 : Bool, mWd H1 a0 ws_wake w5 ∧ (¬ (w5 = true) → ∃ w48 : Bool, mWd H1 a0 ws_mixed w48 ∧ (¬ (w48 = true) → ∃ w74 : Bool, mWd H1 a0 ws_shift w74 ∧ (¬ (w74 = true) → ∃ w98 : Bool, mWd H1 a0 ws_freeze w98 ∧ (¬ (w98 = true) → ∃ w124 : Bool, mWd H1 a0 ws_around w124 ∧ (¬ (w124 = true) → ∃ w151 : Bool, mWd H1 a0 ws_cost w151 ∧ (¬ (w151 = true) → ∃ w202 : Bool, mWd H1 a0 ws_arrival w202 ∧ (¬ (w202 = true) → ∃ w219 : Bool, mWd H1 a0 ws_departure w219 ∧ (¬ (w219 = true) → CL l G mX8_fails d 0 0 [vR a0, vI 1, vI (hg H1 a0 9)] H1 (fun r9 H2 => Lay LMod H2 a0 ∧ r9 = vV ∧ Q vV H2)) ∧ (w219 = true → CL l G mX8_flightPart d 0 0 [vR a0, vI 0] H1 (fun r9 H2 => Lay LMod H2 a0 ∧ r9 = vV ∧ Q vV H2))) ∧ (w202 = true → CL l G mX8_flightPart d 0 0 [vR a0, vI 1] H1 (fun r9 H2 => Lay LMod H2 a0 ∧ r9 = vV ∧ Q vV H2))) ∧ (w151 = true → CL l G mX8_wakeClass d 0 0 [vR a0] H1 (fun r9 H2 => Lay LMod H2 a0 ∧ ∃ y2 : Int, r9 = vI y2 ∧ (-2147483648 ≤ 24 + y2 ∧ 24 + y2 ≤ 2147483647) ∧ CL l G mX8_number d 0 0 [vR a0, vI 0, vI 9999] H2 (fun r9 H3 => Lay LMod H3 a0 ∧ ∃ y3 : Int, r9 = vI y3 ∧ (0 ≤ (24 + y2) ∧ (24 + y2) < 440) ∧ ∀ H4 : AH, H4 = hs H3 (a0 + 2) (24 + y2) y3 → (-2147483648 ≤ 28 + y2 ∧ 28 + y2 ≤ 2147483647) ∧ CL l G mX8_number d 0 0 [vR a0, vI 0, vI 9999] H4 (fun r9 H5 => Lay LMod H5 a0 ∧ ∃ y5 : Int, r9 = vI y5 ∧ (0 ≤ (28 + y2) ∧ (28 + y2) < 440) ∧ ∀ H6 : AH, H6 = hs H5 (a0 + 2) (28 + y2) y5 → Q vV H6))))) ∧ (w124 = true → CL l G mX8_number d 0 0 [vR a0, vI 60, vI 3600] H1 (fun r9 H2 => Lay LMod H2 a0 ∧ ∃ y2 : Int, r9 = vI y2 ∧ ∀ H3 : AH, H3 = hs H2 (a0 + 2) 3 y2 → Q vV H3))) ∧ (w98 = true → CL l G mX8_number d 0 0 [vR a0, vI 0, vI 1800] H1 (fun r9 H2 => Lay LMod H2 a0 ∧ ∃ y2 : Int, r9 = vI y2 ∧ ∀ H3 : AH, H3 = hs H2 (a0 + 2) 2 y2 → Q vV H3))) ∧ (w74 = true → CL l G mX8_number d 0 0 [vR a0, vI 0, vI 4] H1 (fun r9 H2 => Lay LMod H2 a0 ∧ ∃ y2 : Int, r9 = vI y2 ∧ ∀ H3 : AH, H3 = hs H2 (a0 + 2) 1 y2 → Q vV H3))) ∧ (w48 = true → CL l G mX8_number d 0 0 [vR a0, vI 0, vI 600] H1 (fun r9 H2 => Lay LMod H2 a0 ∧ ∃ y2 : Int, r9 = vI y2 ∧ ∀ H3 : AH, H3 = hs H2 (a0 + 2) 4 y2 → Q vV H3))) ∧ (w5 = true → CL l G mX8_wakeClass d 0 0 [vR a0] H1 (fun r9 H2 => Lay LMod H2 a0 ∧ ∃ y2 : Int, r9 = vI y2 ∧ CL l G mX8_wakeClass d 0 0 [vR a0] H2 (fun r9 H3 => Lay LMod H3 a0 ∧ ∃ y3 : Int, r9 = vI y3 ∧ (-2147483648 ≤ 4 * y2 ∧ 4 * y2 ≤ 2147483647) ∧ (-2147483648 ≤ 8 + (4 * y2) ∧ 8 + (4 * y2) ≤ 2147483647) ∧ (-2147483648 ≤ (8 + (4 * y2)) + y3 ∧ (8 + (4 * y2)) + y3 ≤ 2147483647) ∧ CL l G mX8_number d 0 0 [vR a0, vI 0, vI 600] H3 (fun r9 H4 => Lay LMod H4 a0 ∧ ∃ y4 : Int, r9 = vI y4 ∧ (0 ≤ ((8 + (4 * y2)) + y3) ∧ ((8 + (4 * y2)) + y3) < 440) ∧ ∀ H5 : AH, H5 = hs H4 (a0 + 2) ((8 + (4 * y2)) + y3) y4 → Q vV H5)))))) (hd : 4 ≤ d := by omega) : AW l G mX8_statement (d + 1) 0 0 Q 0 [vR a0, vU, vU] [] 0 0 H := by
  refine a_aload_n dX8_statement_0 rfl rfl ?_
  refine a_callV dX8_statement_1 cw_X8_statement_1 (as := []) rfl rfl (kMod_0 h_r0) (Nat.le_refl _) (Nat.le_of_ble_eq_true rfl) (nocov rfl) (Nat.le_of_ble_eq_true rfl) (Nat.le_of_ble_eq_true rfl) (CL.mono h (fun r9 H1 h => ?_))
  obtain ⟨h_r0_1, e9, h⟩ := h
  rw [e9]
  show AW l G mX8_statement (d + 1) 0 0 Q 4 [vR a0, vU, vU] [] 0 0 H1
  refine a_aload_n dX8_statement_4 rfl rfl ?_
  obtain ⟨w5, qw5, h⟩ := h
  obtain ⟨q9, t9, g9, g8⟩ := hT.2 _ _ _ _ wl_RX8_155
  refine a_ldcX g9 dX8_statement_5 ?_
  refine a_callV dX8_statement_7 cw_X8_statement_7 (as := [vX q9]) rfl rfl (kMod_0 h_r0_1) (Nat.le_refl _) (Nat.le_of_ble_eq_true rfl) (nocov rfl) (Nat.le_of_ble_eq_true rfl) (Nat.le_of_ble_eq_true rfl) (CL.mono (c_isWord h_r0_1 g8 hT.1 (by decide) qw5) (fun r9 H9 h9 => ?_))
  rw [h9.1, h9.2]
  show AW l G mX8_statement (d + 1) 0 0 Q 10 [vR a0, vU, vU] [vI (bi (decide (w5 = true)))] 0 0 H1
  refine a_if_eq dX8_statement_10 (tgt := 47) rfl (fun c10 => ?_) (fun c10 => ?_)
  · replace h := h.1 (bi_0 c10)
    refine a_aload_n dX8_statement_47 rfl rfl ?_
    obtain ⟨w48, qw48, h⟩ := h
    obtain ⟨q9, t9, g9, g8⟩ := hT.2 _ _ _ _ wl_RX8_157
    refine a_ldcX g9 dX8_statement_48 ?_
    refine a_callV dX8_statement_50 cw_X8_statement_50 (as := [vX q9]) rfl rfl (kMod_0 h_r0_1) (Nat.le_refl _) (Nat.le_of_ble_eq_true rfl) (nocov rfl) (Nat.le_of_ble_eq_true rfl) (Nat.le_of_ble_eq_true rfl) (CL.mono (c_isWord h_r0_1 g8 hT.1 (by decide) qw48) (fun r9 H9 h9 => ?_))
    rw [h9.1, h9.2]
    show AW l G mX8_statement (d + 1) 0 0 Q 53 [vR a0, vU, vU] [vI (bi (decide (w48 = true)))] 0 0 H1
    refine a_if_eq dX8_statement_53 (tgt := 73) rfl (fun c53 => ?_) (fun c53 => ?_)
    · replace h := h.1 (bi_0 c53)
      refine a_aload_n dX8_statement_73 rfl rfl ?_
      obtain ⟨w74, qw74, h⟩ := h
      obtain ⟨q9, t9, g9, g8⟩ := hT.2 _ _ _ _ wl_RX8_159
      refine a_ldcX g9 dX8_statement_74 ?_
      refine a_callV dX8_statement_76 cw_X8_statement_76 (as := [vX q9]) rfl rfl (kMod_0 h_r0_1) (Nat.le_refl _) (Nat.le_of_ble_eq_true rfl) (nocov rfl) (Nat.le_of_ble_eq_true rfl) (Nat.le_of_ble_eq_true rfl) (CL.mono (c_isWord h_r0_1 g8 hT.1 (by decide) qw74) (fun r9 H9 h9 => ?_))
      rw [h9.1, h9.2]
      show AW l G mX8_statement (d + 1) 0 0 Q 79 [vR a0, vU, vU] [vI (bi (decide (w74 = true)))] 0 0 H1
      refine a_if_eq dX8_statement_79 (tgt := 97) rfl (fun c79 => ?_) (fun c79 => ?_)
      · replace h := h.1 (bi_0 c79)
        refine a_aload_n dX8_statement_97 rfl rfl ?_
        obtain ⟨w98, qw98, h⟩ := h
        obtain ⟨q9, t9, g9, g8⟩ := hT.2 _ _ _ _ wl_RX8_161
        refine a_ldcX g9 dX8_statement_98 ?_
        refine a_callV dX8_statement_100 cw_X8_statement_100 (as := [vX q9]) rfl rfl (kMod_0 h_r0_1) (Nat.le_refl _) (Nat.le_of_ble_eq_true rfl) (nocov rfl) (Nat.le_of_ble_eq_true rfl) (Nat.le_of_ble_eq_true rfl) (CL.mono (c_isWord h_r0_1 g8 hT.1 (by decide) qw98) (fun r9 H9 h9 => ?_))
        rw [h9.1, h9.2]
        show AW l G mX8_statement (d + 1) 0 0 Q 103 [vR a0, vU, vU] [vI (bi (decide (w98 = true)))] 0 0 H1
        refine a_if_eq dX8_statement_103 (tgt := 123) rfl (fun c103 => ?_) (fun c103 => ?_)
        · replace h := h.1 (bi_0 c103)
          refine a_aload_n dX8_statement_123 rfl rfl ?_
          obtain ⟨w124, qw124, h⟩ := h
          obtain ⟨q9, t9, g9, g8⟩ := hT.2 _ _ _ _ wl_RX8_163
          refine a_ldcX g9 dX8_statement_124 ?_
          refine a_callV dX8_statement_126 cw_X8_statement_126 (as := [vX q9]) rfl rfl (kMod_0 h_r0_1) (Nat.le_refl _) (Nat.le_of_ble_eq_true rfl) (nocov rfl) (Nat.le_of_ble_eq_true rfl) (Nat.le_of_ble_eq_true rfl) (CL.mono (c_isWord h_r0_1 g8 hT.1 (by decide) qw124) (fun r9 H9 h9 => ?_))
          rw [h9.1, h9.2]
          show AW l G mX8_statement (d + 1) 0 0 Q 129 [vR a0, vU, vU] [vI (bi (decide (w124 = true)))] 0 0 H1
          refine a_if_eq dX8_statement_129 (tgt := 150) rfl (fun c129 => ?_) (fun c129 => ?_)
          · replace h := h.1 (bi_0 c129)
            refine a_aload_n dX8_statement_150 rfl rfl ?_
            obtain ⟨w151, qw151, h⟩ := h
            obtain ⟨q9, t9, g9, g8⟩ := hT.2 _ _ _ _ wl_RX8_165
            refine a_ldcX g9 dX8_statement_151 ?_
            refine a_callV dX8_statement_153 cw_X8_statement_153 (as := [vX q9]) rfl rfl (kMod_0 h_r0_1) (Nat.le_refl _) (Nat.le_of_ble_eq_true rfl) (nocov rfl) (Nat.le_of_ble_eq_true rfl) (Nat.le_of_ble_eq_true rfl) (CL.mono (c_isWord h_r0_1 g8 hT.1 (by decide) qw151) (fun r9 H9 h9 => ?_))
            rw [h9.1, h9.2]
            show AW l G mX8_statement (d + 1) 0 0 Q 156 [vR a0, vU, vU] [vI (bi (decide (w151 = true)))] 0 0 H1
            refine a_if_eq dX8_statement_156 (tgt := 201) rfl (fun c156 => ?_) (fun c156 => ?_)
            · replace h := h.1 (bi_0 c156)
              refine a_aload_n dX8_statement_201 rfl rfl ?_
              obtain ⟨w202, qw202, h⟩ := h
              obtain ⟨q9, t9, g9, g8⟩ := hT.2 _ _ _ _ wl_RX8_167
              refine a_ldcX g9 dX8_statement_202 ?_
              refine a_callV dX8_statement_204 cw_X8_statement_204 (as := [vX q9]) rfl rfl (kMod_0 h_r0_1) (Nat.le_refl _) (Nat.le_of_ble_eq_true rfl) (nocov rfl) (Nat.le_of_ble_eq_true rfl) (Nat.le_of_ble_eq_true rfl) (CL.mono (c_isWord h_r0_1 g8 hT.1 (by decide) qw202) (fun r9 H9 h9 => ?_))
              rw [h9.1, h9.2]
              show AW l G mX8_statement (d + 1) 0 0 Q 207 [vR a0, vU, vU] [vI (bi (decide (w202 = true)))] 0 0 H1
              refine a_if_eq dX8_statement_207 (tgt := 218) rfl (fun c207 => ?_) (fun c207 => ?_)
              · replace h := h.1 (bi_0 c207)
                refine a_aload_n dX8_statement_218 rfl rfl ?_
                obtain ⟨w219, qw219, h⟩ := h
                obtain ⟨q9, t9, g9, g8⟩ := hT.2 _ _ _ _ wl_RX8_173
                refine a_ldcX g9 dX8_statement_219 ?_
                refine a_callV dX8_statement_221 cw_X8_statement_221 (as := [vX q9]) rfl rfl (kMod_0 h_r0_1) (Nat.le_refl _) (Nat.le_of_ble_eq_true rfl) (nocov rfl) (Nat.le_of_ble_eq_true rfl) (Nat.le_of_ble_eq_true rfl) (CL.mono (c_isWord h_r0_1 g8 hT.1 (by decide) qw219) (fun r9 H9 h9 => ?_))
                rw [h9.1, h9.2]
                show AW l G mX8_statement (d + 1) 0 0 Q 224 [vR a0, vU, vU] [vI (bi (decide (w219 = true)))] 0 0 H1
                refine a_if_eq dX8_statement_224 (tgt := 235) rfl (fun c224 => ?_) (fun c224 => ?_)
                · replace h := h.1 (bi_0 c224)
                  refine a_aload_n dX8_statement_235 rfl rfl ?_
                  refine a_iconst dX8_statement_236 ⟨by decide, by decide⟩ ?_
                  refine a_aload_n dX8_statement_237 rfl rfl ?_
                  refine a_getI dX8_statement_238 fw_RX8_91 rfl rfl (kMod_0 h_r0_1) ?_
                  refine a_callV dX8_statement_241 cw_X8_statement_241 (as := [vI 1, vI (hg H1 a0 9)]) rfl rfl (kMod_0 h_r0_1) (Nat.le_refl _) (Nat.le_of_ble_eq_true rfl) (nocov rfl) (Nat.le_of_ble_eq_true rfl) (Nat.le_of_ble_eq_true rfl) (CL.mono h (fun r9 H2 h => ?_))
                  obtain ⟨h_r0_2, e9, h⟩ := h
                  rw [e9]
                  show AW l G mX8_statement (d + 1) 0 0 Q 244 [vR a0, vU, vU] [] 0 0 H2
                  exact a_vret dX8_statement_244 rfl (Nat.le_of_ble_eq_true rfl) (Nat.le_of_ble_eq_true rfl) h
                · replace h := h.2 (bi_1 c224)
                  refine a_aload_n dX8_statement_227 rfl rfl ?_
                  refine a_iconst dX8_statement_228 ⟨by decide, by decide⟩ ?_
                  refine a_callV dX8_statement_229 cw_X8_statement_229 (as := [vI 0]) rfl rfl (kMod_0 h_r0_1) (Nat.le_refl _) (Nat.le_of_ble_eq_true rfl) (nocov rfl) (Nat.le_of_ble_eq_true rfl) (Nat.le_of_ble_eq_true rfl) (CL.mono h (fun r9 H2 h => ?_))
                  obtain ⟨h_r0_2, e9, h⟩ := h
                  rw [e9]
                  show AW l G mX8_statement (d + 1) 0 0 Q 232 [vR a0, vU, vU] [] 0 0 H2
                  refine a_goto dX8_statement_232 (tgt := 244) rfl ?_
                  exact a_vret dX8_statement_244 rfl (Nat.le_of_ble_eq_true rfl) (Nat.le_of_ble_eq_true rfl) h
              · replace h := h.2 (bi_1 c207)
                refine a_aload_n dX8_statement_210 rfl rfl ?_
                refine a_iconst dX8_statement_211 ⟨by decide, by decide⟩ ?_
                refine a_callV dX8_statement_212 cw_X8_statement_212 (as := [vI 1]) rfl rfl (kMod_0 h_r0_1) (Nat.le_refl _) (Nat.le_of_ble_eq_true rfl) (nocov rfl) (Nat.le_of_ble_eq_true rfl) (Nat.le_of_ble_eq_true rfl) (CL.mono h (fun r9 H2 h => ?_))
                obtain ⟨h_r0_2, e9, h⟩ := h
                rw [e9]
                show AW l G mX8_statement (d + 1) 0 0 Q 215 [vR a0, vU, vU] [] 0 0 H2
                refine a_goto dX8_statement_215 (tgt := 244) rfl ?_
                exact a_vret dX8_statement_244 rfl (Nat.le_of_ble_eq_true rfl) (Nat.le_of_ble_eq_true rfl) h
            · replace h := h.2 (bi_1 c156)
              refine a_aload_n dX8_statement_159 rfl rfl ?_
              refine a_callV dX8_statement_160 cw_X8_statement_160 (as := []) rfl rfl (kMod_0 h_r0_1) (Nat.le_refl _) (Nat.le_of_ble_eq_true rfl) (nocov rfl) (Nat.le_of_ble_eq_true rfl) (Nat.le_of_ble_eq_true rfl) (CL.mono h (fun r9 H2 h => ?_))
              obtain ⟨h_r0_2, y2, e9, h⟩ := h
              rw [e9]
              show AW l G mX8_statement (d + 1) 0 0 Q 163 [vR a0, vU, vU] [vI y2] 0 0 H2
              refine a_istore_n dX8_statement_163 rfl (Nat.le_of_ble_eq_true rfl) (ls' := [vR a0, vI y2, vU]) rfl ?_
              refine a_aload_n dX8_statement_164 rfl rfl ?_
              refine a_getR dX8_statement_165 fw_RX8_13 rfl rfl (kMod_0 h_r0_2) (rMod_0_1 h_r0_2) ?_
              refine a_bipush dX8_statement_168 (by decide) ?_
              refine a_iload_n dX8_statement_170 rfl rfl ?_
              obtain ⟨q171_0, h⟩ := h
              refine a_iadd dX8_statement_171 q171_0 ?_
              refine a_aload_n dX8_statement_172 rfl rfl ?_
              refine a_iconst dX8_statement_173 ⟨by decide, by decide⟩ ?_
              refine a_sipush dX8_statement_174 (by decide) ?_
              refine a_callV dX8_statement_177 cw_X8_statement_177 (as := [vI 0, vI 9999]) rfl rfl (kMod_0 h_r0_2) (Nat.le_refl _) (Nat.le_of_ble_eq_true rfl) (nocov rfl) (Nat.le_of_ble_eq_true rfl) (Nat.le_of_ble_eq_true rfl) (CL.mono h (fun r9 H3 h => ?_))
              obtain ⟨h_r0_3, y3, e9, h⟩ := h
              rw [e9]
              show AW l G mX8_statement (d + 1) 0 0 Q 180 [vR a0, vI y2, vU] [vI y3, vI (24 + y2), vR (a0 + 2)] 0 0 H3
              obtain ⟨q180_0, h⟩ := h
              refine b_iast dX8_statement_180 (kMod_2 h_r0_3) (nMod_2 h_r0_3) q180_0 ?_
              have h_r0_4 := Lay.wr h_r0_3 ok_Mod (nrf_arr (kMod_2 h_r0_3) (by decide) (by decide)) (i := (24 + y2)) (x := y3)
              generalize e_H4 : hs H3 (a0 + 2) (24 + y2) y3 = H4 at h_r0_4 ⊢
              replace h := h H4 e_H4.symm
              refine a_aload_n dX8_statement_181 rfl rfl ?_
              refine a_getR dX8_statement_182 fw_RX8_13 rfl rfl (kMod_0 h_r0_4) (rMod_0_1 h_r0_4) ?_
              refine a_bipush dX8_statement_185 (by decide) ?_
              refine a_iload_n dX8_statement_187 rfl rfl ?_
              obtain ⟨q188_0, h⟩ := h
              refine a_iadd dX8_statement_188 q188_0 ?_
              refine a_aload_n dX8_statement_189 rfl rfl ?_
              refine a_iconst dX8_statement_190 ⟨by decide, by decide⟩ ?_
              refine a_sipush dX8_statement_191 (by decide) ?_
              refine a_callV dX8_statement_194 cw_X8_statement_194 (as := [vI 0, vI 9999]) rfl rfl (kMod_0 h_r0_4) (Nat.le_refl _) (Nat.le_of_ble_eq_true rfl) (nocov rfl) (Nat.le_of_ble_eq_true rfl) (Nat.le_of_ble_eq_true rfl) (CL.mono h (fun r9 H5 h => ?_))
              obtain ⟨h_r0_5, y5, e9, h⟩ := h
              rw [e9]
              show AW l G mX8_statement (d + 1) 0 0 Q 197 [vR a0, vI y2, vU] [vI y5, vI (28 + y2), vR (a0 + 2)] 0 0 H5
              obtain ⟨q197_0, h⟩ := h
              refine b_iast dX8_statement_197 (kMod_2 h_r0_5) (nMod_2 h_r0_5) q197_0 ?_
              have h_r0_6 := Lay.wr h_r0_5 ok_Mod (nrf_arr (kMod_2 h_r0_5) (by decide) (by decide)) (i := (28 + y2)) (x := y5)
              generalize e_H6 : hs H5 (a0 + 2) (28 + y2) y5 = H6 at h_r0_6 ⊢
              replace h := h H6 e_H6.symm
              refine a_goto dX8_statement_198 (tgt := 244) rfl ?_
              exact a_vret dX8_statement_244 rfl (Nat.le_of_ble_eq_true rfl) (Nat.le_of_ble_eq_true rfl) h
          · replace h := h.2 (bi_1 c129)
            refine a_aload_n dX8_statement_132 rfl rfl ?_
            refine a_getR dX8_statement_133 fw_RX8_13 rfl rfl (kMod_0 h_r0_1) (rMod_0_1 h_r0_1) ?_
            refine a_iconst dX8_statement_136 ⟨by decide, by decide⟩ ?_
            refine a_aload_n dX8_statement_137 rfl rfl ?_
            refine a_bipush dX8_statement_138 (by decide) ?_
            refine a_sipush dX8_statement_140 (by decide) ?_
            refine a_callV dX8_statement_143 cw_X8_statement_143 (as := [vI 60, vI 3600]) rfl rfl (kMod_0 h_r0_1) (Nat.le_refl _) (Nat.le_of_ble_eq_true rfl) (nocov rfl) (Nat.le_of_ble_eq_true rfl) (Nat.le_of_ble_eq_true rfl) (CL.mono h (fun r9 H2 h => ?_))
            obtain ⟨h_r0_2, y2, e9, h⟩ := h
            rw [e9]
            show AW l G mX8_statement (d + 1) 0 0 Q 146 [vR a0, vU, vU] [vI y2, vI 3, vR (a0 + 2)] 0 0 H2
            refine b_iast dX8_statement_146 (kMod_2 h_r0_2) (nMod_2 h_r0_2) (⟨by decide, by decide⟩) ?_
            have h_r0_3 := Lay.wr h_r0_2 ok_Mod (nrf_arr (kMod_2 h_r0_2) (by decide) (by decide)) (i := 3) (x := y2)
            generalize e_H3 : hs H2 (a0 + 2) 3 y2 = H3 at h_r0_3 ⊢
            replace h := h H3 e_H3.symm
            refine a_goto dX8_statement_147 (tgt := 244) rfl ?_
            exact a_vret dX8_statement_244 rfl (Nat.le_of_ble_eq_true rfl) (Nat.le_of_ble_eq_true rfl) h
        · replace h := h.2 (bi_1 c103)
          refine a_aload_n dX8_statement_106 rfl rfl ?_
          refine a_getR dX8_statement_107 fw_RX8_13 rfl rfl (kMod_0 h_r0_1) (rMod_0_1 h_r0_1) ?_
          refine a_iconst dX8_statement_110 ⟨by decide, by decide⟩ ?_
          refine a_aload_n dX8_statement_111 rfl rfl ?_
          refine a_iconst dX8_statement_112 ⟨by decide, by decide⟩ ?_
          refine a_sipush dX8_statement_113 (by decide) ?_
          refine a_callV dX8_statement_116 cw_X8_statement_116 (as := [vI 0, vI 1800]) rfl rfl (kMod_0 h_r0_1) (Nat.le_refl _) (Nat.le_of_ble_eq_true rfl) (nocov rfl) (Nat.le_of_ble_eq_true rfl) (Nat.le_of_ble_eq_true rfl) (CL.mono h (fun r9 H2 h => ?_))
          obtain ⟨h_r0_2, y2, e9, h⟩ := h
          rw [e9]
          show AW l G mX8_statement (d + 1) 0 0 Q 119 [vR a0, vU, vU] [vI y2, vI 2, vR (a0 + 2)] 0 0 H2
          refine b_iast dX8_statement_119 (kMod_2 h_r0_2) (nMod_2 h_r0_2) (⟨by decide, by decide⟩) ?_
          have h_r0_3 := Lay.wr h_r0_2 ok_Mod (nrf_arr (kMod_2 h_r0_2) (by decide) (by decide)) (i := 2) (x := y2)
          generalize e_H3 : hs H2 (a0 + 2) 2 y2 = H3 at h_r0_3 ⊢
          replace h := h H3 e_H3.symm
          refine a_goto dX8_statement_120 (tgt := 244) rfl ?_
          exact a_vret dX8_statement_244 rfl (Nat.le_of_ble_eq_true rfl) (Nat.le_of_ble_eq_true rfl) h
      · replace h := h.2 (bi_1 c79)
        refine a_aload_n dX8_statement_82 rfl rfl ?_
        refine a_getR dX8_statement_83 fw_RX8_13 rfl rfl (kMod_0 h_r0_1) (rMod_0_1 h_r0_1) ?_
        refine a_iconst dX8_statement_86 ⟨by decide, by decide⟩ ?_
        refine a_aload_n dX8_statement_87 rfl rfl ?_
        refine a_iconst dX8_statement_88 ⟨by decide, by decide⟩ ?_
        refine a_iconst dX8_statement_89 ⟨by decide, by decide⟩ ?_
        refine a_callV dX8_statement_90 cw_X8_statement_90 (as := [vI 0, vI 4]) rfl rfl (kMod_0 h_r0_1) (Nat.le_refl _) (Nat.le_of_ble_eq_true rfl) (nocov rfl) (Nat.le_of_ble_eq_true rfl) (Nat.le_of_ble_eq_true rfl) (CL.mono h (fun r9 H2 h => ?_))
        obtain ⟨h_r0_2, y2, e9, h⟩ := h
        rw [e9]
        show AW l G mX8_statement (d + 1) 0 0 Q 93 [vR a0, vU, vU] [vI y2, vI 1, vR (a0 + 2)] 0 0 H2
        refine b_iast dX8_statement_93 (kMod_2 h_r0_2) (nMod_2 h_r0_2) (⟨by decide, by decide⟩) ?_
        have h_r0_3 := Lay.wr h_r0_2 ok_Mod (nrf_arr (kMod_2 h_r0_2) (by decide) (by decide)) (i := 1) (x := y2)
        generalize e_H3 : hs H2 (a0 + 2) 1 y2 = H3 at h_r0_3 ⊢
        replace h := h H3 e_H3.symm
        refine a_goto dX8_statement_94 (tgt := 244) rfl ?_
        exact a_vret dX8_statement_244 rfl (Nat.le_of_ble_eq_true rfl) (Nat.le_of_ble_eq_true rfl) h
    · replace h := h.2 (bi_1 c53)
      refine a_aload_n dX8_statement_56 rfl rfl ?_
      refine a_getR dX8_statement_57 fw_RX8_13 rfl rfl (kMod_0 h_r0_1) (rMod_0_1 h_r0_1) ?_
      refine a_iconst dX8_statement_60 ⟨by decide, by decide⟩ ?_
      refine a_aload_n dX8_statement_61 rfl rfl ?_
      refine a_iconst dX8_statement_62 ⟨by decide, by decide⟩ ?_
      refine a_sipush dX8_statement_63 (by decide) ?_
      refine a_callV dX8_statement_66 cw_X8_statement_66 (as := [vI 0, vI 600]) rfl rfl (kMod_0 h_r0_1) (Nat.le_refl _) (Nat.le_of_ble_eq_true rfl) (nocov rfl) (Nat.le_of_ble_eq_true rfl) (Nat.le_of_ble_eq_true rfl) (CL.mono h (fun r9 H2 h => ?_))
      obtain ⟨h_r0_2, y2, e9, h⟩ := h
      rw [e9]
      show AW l G mX8_statement (d + 1) 0 0 Q 69 [vR a0, vU, vU] [vI y2, vI 4, vR (a0 + 2)] 0 0 H2
      refine b_iast dX8_statement_69 (kMod_2 h_r0_2) (nMod_2 h_r0_2) (⟨by decide, by decide⟩) ?_
      have h_r0_3 := Lay.wr h_r0_2 ok_Mod (nrf_arr (kMod_2 h_r0_2) (by decide) (by decide)) (i := 4) (x := y2)
      generalize e_H3 : hs H2 (a0 + 2) 4 y2 = H3 at h_r0_3 ⊢
      replace h := h H3 e_H3.symm
      refine a_goto dX8_statement_70 (tgt := 244) rfl ?_
      exact a_vret dX8_statement_244 rfl (Nat.le_of_ble_eq_true rfl) (Nat.le_of_ble_eq_true rfl) h
  · replace h := h.2 (bi_1 c10)
    refine a_aload_n dX8_statement_13 rfl rfl ?_
    refine a_callV dX8_statement_14 cw_X8_statement_14 (as := []) rfl rfl (kMod_0 h_r0_1) (Nat.le_refl _) (Nat.le_of_ble_eq_true rfl) (nocov rfl) (Nat.le_of_ble_eq_true rfl) (Nat.le_of_ble_eq_true rfl) (CL.mono h (fun r9 H2 h => ?_))
    obtain ⟨h_r0_2, y2, e9, h⟩ := h
    rw [e9]
    show AW l G mX8_statement (d + 1) 0 0 Q 17 [vR a0, vU, vU] [vI y2] 0 0 H2
    refine a_istore_n dX8_statement_17 rfl (Nat.le_of_ble_eq_true rfl) (ls' := [vR a0, vI y2, vU]) rfl ?_
    refine a_aload_n dX8_statement_18 rfl rfl ?_
    refine a_callV dX8_statement_19 cw_X8_statement_19 (as := []) rfl rfl (kMod_0 h_r0_2) (Nat.le_refl _) (Nat.le_of_ble_eq_true rfl) (nocov rfl) (Nat.le_of_ble_eq_true rfl) (Nat.le_of_ble_eq_true rfl) (CL.mono h (fun r9 H3 h => ?_))
    obtain ⟨h_r0_3, y3, e9, h⟩ := h
    rw [e9]
    show AW l G mX8_statement (d + 1) 0 0 Q 22 [vR a0, vI y2, vU] [vI y3] 0 0 H3
    refine a_istore_n dX8_statement_22 rfl (Nat.le_of_ble_eq_true rfl) (ls' := [vR a0, vI y2, vI y3]) rfl ?_
    refine a_aload_n dX8_statement_23 rfl rfl ?_
    refine a_getR dX8_statement_24 fw_RX8_13 rfl rfl (kMod_0 h_r0_3) (rMod_0_1 h_r0_3) ?_
    refine a_bipush dX8_statement_27 (by decide) ?_
    refine a_iconst dX8_statement_29 ⟨by decide, by decide⟩ ?_
    refine a_iload_n dX8_statement_30 rfl rfl ?_
    obtain ⟨q31_0, h⟩ := h
    refine a_imul dX8_statement_31 q31_0 ?_
    obtain ⟨q32_0, h⟩ := h
    refine a_iadd dX8_statement_32 q32_0 ?_
    refine a_iload_n dX8_statement_33 rfl rfl ?_
    obtain ⟨q34_0, h⟩ := h
    refine a_iadd dX8_statement_34 q34_0 ?_
    refine a_aload_n dX8_statement_35 rfl rfl ?_
    refine a_iconst dX8_statement_36 ⟨by decide, by decide⟩ ?_
    refine a_sipush dX8_statement_37 (by decide) ?_
    refine a_callV dX8_statement_40 cw_X8_statement_40 (as := [vI 0, vI 600]) rfl rfl (kMod_0 h_r0_3) (Nat.le_refl _) (Nat.le_of_ble_eq_true rfl) (nocov rfl) (Nat.le_of_ble_eq_true rfl) (Nat.le_of_ble_eq_true rfl) (CL.mono h (fun r9 H4 h => ?_))
    obtain ⟨h_r0_4, y4, e9, h⟩ := h
    rw [e9]
    show AW l G mX8_statement (d + 1) 0 0 Q 43 [vR a0, vI y2, vI y3] [vI y4, vI ((8 + (4 * y2)) + y3), vR (a0 + 2)] 0 0 H4
    obtain ⟨q43_0, h⟩ := h
    refine b_iast dX8_statement_43 (kMod_2 h_r0_4) (nMod_2 h_r0_4) q43_0 ?_
    have h_r0_5 := Lay.wr h_r0_4 ok_Mod (nrf_arr (kMod_2 h_r0_4) (by decide) (by decide)) (i := ((8 + (4 * y2)) + y3)) (x := y4)
    generalize e_H5 : hs H4 (a0 + 2) ((8 + (4 * y2)) + y3) y4 = H5 at h_r0_5 ⊢
    replace h := h H5 e_H5.symm
    refine a_goto dX8_statement_44 (tgt := 244) rfl ?_
    exact a_vret dX8_statement_244 rfl (Nat.le_of_ble_eq_true rfl) (Nat.le_of_ble_eq_true rfl) h


theorem dX8_isMore_0 : decode cX8_isMore 0 = .ok (.aload_n 0, 1) := by decide +kernel
theorem dX8_isMore_1 : decode cX8_isMore 1 = .ok (.getfield 94, 3) := by decide +kernel
theorem dX8_isMore_4 : decode cX8_isMore 4 = .ok (.ifCond .ne 10, 3) := by decide +kernel
theorem dX8_isMore_7 : decode cX8_isMore 7 = .ok (.aload_n 0, 1) := by decide +kernel
theorem dX8_isMore_8 : decode cX8_isMore 8 = .ok (.invokevirtual 100, 3) := by decide +kernel
theorem dX8_isMore_11 : decode cX8_isMore 11 = .ok (.ifCond .ge 5, 3) := by decide +kernel
theorem dX8_isMore_14 : decode cX8_isMore 14 = .ok (.iconst 0, 1) := by decide +kernel
theorem dX8_isMore_15 : decode cX8_isMore 15 = .ok (.ireturn, 1) := by decide +kernel
theorem dX8_isMore_16 : decode cX8_isMore 16 = .ok (.aload_n 0, 1) := by decide +kernel
theorem dX8_isMore_17 : decode cX8_isMore 17 = .ok (.invokevirtual 87, 3) := by decide +kernel
theorem dX8_isMore_20 : decode cX8_isMore 20 = .ok (.bipush 59, 2) := by decide +kernel
theorem dX8_isMore_22 : decode cX8_isMore 22 = .ok (.if_icmp .eq 14, 3) := by decide +kernel
theorem dX8_isMore_25 : decode cX8_isMore 25 = .ok (.aload_n 0, 1) := by decide +kernel
theorem dX8_isMore_26 : decode cX8_isMore 26 = .ok (.iconst 1, 1) := by decide +kernel
theorem dX8_isMore_27 : decode cX8_isMore 27 = .ok (.aload_n 0, 1) := by decide +kernel
theorem dX8_isMore_28 : decode cX8_isMore 28 = .ok (.getfield 85, 3) := by decide +kernel
theorem dX8_isMore_31 : decode cX8_isMore 31 = .ok (.invokevirtual 111, 3) := by decide +kernel
theorem dX8_isMore_34 : decode cX8_isMore 34 = .ok (.iconst 0, 1) := by decide +kernel
theorem dX8_isMore_35 : decode cX8_isMore 35 = .ok (.ireturn, 1) := by decide +kernel
theorem dX8_isMore_36 : decode cX8_isMore 36 = .ok (.aload_n 0, 1) := by decide +kernel
theorem dX8_isMore_37 : decode cX8_isMore 37 = .ok (.dup, 1) := by decide +kernel
theorem dX8_isMore_38 : decode cX8_isMore 38 = .ok (.getfield 85, 3) := by decide +kernel
theorem dX8_isMore_41 : decode cX8_isMore 41 = .ok (.iconst 1, 1) := by decide +kernel
theorem dX8_isMore_42 : decode cX8_isMore 42 = .ok (.iadd, 1) := by decide +kernel
theorem dX8_isMore_43 : decode cX8_isMore 43 = .ok (.putfield 85, 3) := by decide +kernel
theorem dX8_isMore_46 : decode cX8_isMore 46 = .ok (.iconst 1, 1) := by decide +kernel
theorem dX8_isMore_47 : decode cX8_isMore 47 = .ok (.ireturn, 1) := by decide +kernel
set_option maxRecDepth 20000 in
theorem s_X8_isMore_0 {l : Launch} {G : GT} {d : Nat} {Q : AV → AH → Prop} {H : AH} {a0 : Int} (h_r0 : Lay LMod H a0) (h : (¬ (hg H a0 10) = 0 → Q (vI 0) H) ∧ ((hg H a0 10) = 0 → CL l G mX8_next d 0 0 [vR a0] H (fun r9 H1 => Lay LMod H1 a0 ∧ ∃ y1 : Int, r9 = vI y1 ∧ (0 ≤ y1 → CL l G mX8_here d 0 0 [vR a0] H1 (fun r9 H2 => Lay LMod H2 a0 ∧ ∃ y2 : Int, r9 = vI y2 ∧ (y2 = 59 → (-2147483648 ≤ (hg H2 a0 8) + 1 ∧ (hg H2 a0 8) + 1 ≤ 2147483647) ∧ ∀ H3 : AH, H3 = hs H2 a0 8 ((hg H2 a0 8) + 1) → Q (vI 1) H3) ∧ (¬ y2 = 59 → CL l G mX8_fails d 0 0 [vR a0, vI 1, vI (hg H2 a0 8)] H2 (fun r9 H3 => Lay LMod H3 a0 ∧ r9 = vV ∧ Q (vI 0) H3)))) ∧ (y1 < 0 → Q (vI 0) H1)))) : AW l G mX8_isMore (d + 1) 0 0 Q 0 [vR a0] [] 0 0 H := by
  refine a_aload_n dX8_isMore_0 rfl rfl ?_
  refine a_getI dX8_isMore_1 fw_RX8_94 rfl rfl (kMod_0 h_r0) ?_
  refine a_if_ne dX8_isMore_4 (tgt := 14) rfl (fun c4 => ?_) (fun c4 => ?_)
  · replace h := h.1 c4
    refine a_iconst dX8_isMore_14 ⟨by decide, by decide⟩ ?_
    exact a_zret dX8_isMore_15 rfl (by decide) (Nat.le_of_ble_eq_true rfl) (Nat.le_of_ble_eq_true rfl) h
  · replace h := h.2 c4
    refine a_aload_n dX8_isMore_7 rfl rfl ?_
    refine a_callV dX8_isMore_8 cw_X8_isMore_8 (as := []) rfl rfl (kMod_0 h_r0) (Nat.le_refl _) (Nat.le_of_ble_eq_true rfl) (nocov rfl) (Nat.le_of_ble_eq_true rfl) (Nat.le_of_ble_eq_true rfl) (CL.mono h (fun r9 H1 h => ?_))
    obtain ⟨h_r0_1, y1, e9, h⟩ := h
    rw [e9]
    show AW l G mX8_isMore (d + 1) 0 0 Q 11 [vR a0] [vI y1] 0 0 H1
    refine a_if_ge dX8_isMore_11 (tgt := 16) rfl (fun c11 => ?_) (fun c11 => ?_)
    · replace h := h.1 c11
      refine a_aload_n dX8_isMore_16 rfl rfl ?_
      refine a_callV dX8_isMore_17 cw_X8_isMore_17 (as := []) rfl rfl (kMod_0 h_r0_1) (Nat.le_refl _) (Nat.le_of_ble_eq_true rfl) (nocov rfl) (Nat.le_of_ble_eq_true rfl) (Nat.le_of_ble_eq_true rfl) (CL.mono h (fun r9 H2 h => ?_))
      obtain ⟨h_r0_2, y2, e9, h⟩ := h
      rw [e9]
      show AW l G mX8_isMore (d + 1) 0 0 Q 20 [vR a0] [vI y2] 0 0 H2
      refine a_bipush dX8_isMore_20 (by decide) ?_
      refine a_icmp_eq dX8_isMore_22 (tgt := 36) rfl (fun c22 => ?_) (fun c22 => ?_)
      · replace h := h.1 c22
        refine a_aload_n dX8_isMore_36 rfl rfl ?_
        refine a_dup dX8_isMore_37 rfl ?_
        refine a_getI dX8_isMore_38 fw_RX8_85 rfl rfl (kMod_0 h_r0_2) ?_
        refine a_iconst dX8_isMore_41 ⟨by decide, by decide⟩ ?_
        obtain ⟨q42_0, h⟩ := h
        refine a_iadd dX8_isMore_42 q42_0 ?_
        refine a_putI dX8_isMore_43 fp_RX8_85 rfl rfl (kMod_0 h_r0_2) ?_
        have h_r0_3 := Lay.wr h_r0_2 ok_Mod (nrf_fld 8 (kMod_0 h_r0_2) (by decide) (by decide)) (i := 8) (x := ((hg H2 a0 8) + 1))
        generalize e_H3 : hs H2 a0 8 ((hg H2 a0 8) + 1) = H3 at h_r0_3 ⊢
        replace h := h H3 e_H3.symm
        refine a_iconst dX8_isMore_46 ⟨by decide, by decide⟩ ?_
        exact a_zret dX8_isMore_47 rfl (by decide) (Nat.le_of_ble_eq_true rfl) (Nat.le_of_ble_eq_true rfl) h
      · replace h := h.2 c22
        refine a_aload_n dX8_isMore_25 rfl rfl ?_
        refine a_iconst dX8_isMore_26 ⟨by decide, by decide⟩ ?_
        refine a_aload_n dX8_isMore_27 rfl rfl ?_
        refine a_getI dX8_isMore_28 fw_RX8_85 rfl rfl (kMod_0 h_r0_2) ?_
        refine a_callV dX8_isMore_31 cw_X8_isMore_31 (as := [vI 1, vI (hg H2 a0 8)]) rfl rfl (kMod_0 h_r0_2) (Nat.le_refl _) (Nat.le_of_ble_eq_true rfl) (nocov rfl) (Nat.le_of_ble_eq_true rfl) (Nat.le_of_ble_eq_true rfl) (CL.mono h (fun r9 H3 h => ?_))
        obtain ⟨h_r0_3, e9, h⟩ := h
        rw [e9]
        show AW l G mX8_isMore (d + 1) 0 0 Q 34 [vR a0] [] 0 0 H3
        refine a_iconst dX8_isMore_34 ⟨by decide, by decide⟩ ?_
        exact a_zret dX8_isMore_35 rfl (by decide) (Nat.le_of_ble_eq_true rfl) (Nat.le_of_ble_eq_true rfl) h
    · replace h := h.2 c11
      refine a_iconst dX8_isMore_14 ⟨by decide, by decide⟩ ?_
      exact a_zret dX8_isMore_15 rfl (by decide) (Nat.le_of_ble_eq_true rfl) (Nat.le_of_ble_eq_true rfl) h


theorem dX8_assignsAll_0 : decode cX8_assignsAll 0 = .ok (.aload_n 0, 1) := by decide +kernel
theorem dX8_assignsAll_1 : decode cX8_assignsAll 1 = .ok (.bipush 6, 2) := by decide +kernel
theorem dX8_assignsAll_3 : decode cX8_assignsAll 3 = .ok (.iaload, 1) := by decide +kernel
theorem dX8_assignsAll_4 : decode cX8_assignsAll 4 = .ok (.istore_n 1, 1) := by decide +kernel
theorem dX8_assignsAll_5 : decode cX8_assignsAll 5 = .ok (.iconst 0, 1) := by decide +kernel
theorem dX8_assignsAll_6 : decode cX8_assignsAll 6 = .ok (.istore_n 2, 1) := by decide +kernel
theorem dX8_assignsAll_7 : decode cX8_assignsAll 7 = .ok (.iload_n 2, 1) := by decide +kernel
theorem dX8_assignsAll_8 : decode cX8_assignsAll 8 = .ok (.iload_n 1, 1) := by decide +kernel
theorem dX8_assignsAll_9 : decode cX8_assignsAll 9 = .ok (.if_icmp .ge 18, 3) := by decide +kernel
theorem dX8_assignsAll_12 : decode cX8_assignsAll 12 = .ok (.aload_n 0, 1) := by decide +kernel
theorem dX8_assignsAll_13 : decode cX8_assignsAll 13 = .ok (.iload_n 2, 1) := by decide +kernel
theorem dX8_assignsAll_14 : decode cX8_assignsAll 14 = .ok (.bipush 6, 2) := by decide +kernel
theorem dX8_assignsAll_16 : decode cX8_assignsAll 16 = .ok (.invokestatic 59, 3) := by decide +kernel
theorem dX8_assignsAll_19 : decode cX8_assignsAll 19 = .ok (.iconst (-1), 1) := by decide +kernel
theorem dX8_assignsAll_20 : decode cX8_assignsAll 20 = .ok (.iastore, 1) := by decide +kernel
theorem dX8_assignsAll_21 : decode cX8_assignsAll 21 = .ok (.iinc 2 1, 3) := by decide +kernel
theorem dX8_assignsAll_24 : decode cX8_assignsAll 24 = .ok (.goto (-17), 3) := by decide +kernel
theorem dX8_assignsAll_27 : decode cX8_assignsAll 27 = .ok (.iconst 0, 1) := by decide +kernel
theorem dX8_assignsAll_28 : decode cX8_assignsAll 28 = .ok (.istore_n 2, 1) := by decide +kernel
theorem dX8_assignsAll_29 : decode cX8_assignsAll 29 = .ok (.iload_n 2, 1) := by decide +kernel
theorem dX8_assignsAll_30 : decode cX8_assignsAll 30 = .ok (.iload_n 1, 1) := by decide +kernel
theorem dX8_assignsAll_31 : decode cX8_assignsAll 31 = .ok (.if_icmp .ge 96, 3) := by decide +kernel
theorem dX8_assignsAll_34 : decode cX8_assignsAll 34 = .ok (.iconst (-1), 1) := by decide +kernel
theorem dX8_assignsAll_35 : decode cX8_assignsAll 35 = .ok (.istore_n 3, 1) := by decide +kernel
theorem dX8_assignsAll_36 : decode cX8_assignsAll 36 = .ok (.iconst 0, 1) := by decide +kernel
theorem dX8_assignsAll_37 : decode cX8_assignsAll 37 = .ok (.istore 4, 2) := by decide +kernel
theorem dX8_assignsAll_39 : decode cX8_assignsAll 39 = .ok (.iload 4, 2) := by decide +kernel
theorem dX8_assignsAll_41 : decode cX8_assignsAll 41 = .ok (.iload_n 1, 1) := by decide +kernel
theorem dX8_assignsAll_42 : decode cX8_assignsAll 42 = .ok (.if_icmp .ge 60, 3) := by decide +kernel
theorem dX8_assignsAll_45 : decode cX8_assignsAll 45 = .ok (.aload_n 0, 1) := by decide +kernel
theorem dX8_assignsAll_46 : decode cX8_assignsAll 46 = .ok (.iload 4, 2) := by decide +kernel
theorem dX8_assignsAll_48 : decode cX8_assignsAll 48 = .ok (.bipush 6, 2) := by decide +kernel
theorem dX8_assignsAll_50 : decode cX8_assignsAll 50 = .ok (.invokestatic 59, 3) := by decide +kernel
theorem dX8_assignsAll_53 : decode cX8_assignsAll 53 = .ok (.iaload, 1) := by decide +kernel
theorem dX8_assignsAll_54 : decode cX8_assignsAll 54 = .ok (.iconst (-1), 1) := by decide +kernel
theorem dX8_assignsAll_55 : decode cX8_assignsAll 55 = .ok (.if_icmp .ne 7, 3) := by decide +kernel
theorem dX8_assignsAll_58 : decode cX8_assignsAll 58 = .ok (.iconst 1, 1) := by decide +kernel
theorem dX8_assignsAll_59 : decode cX8_assignsAll 59 = .ok (.goto 4, 3) := by decide +kernel
theorem dX8_assignsAll_62 : decode cX8_assignsAll 62 = .ok (.iconst 0, 1) := by decide +kernel
theorem dX8_assignsAll_63 : decode cX8_assignsAll 63 = .ok (.istore 5, 2) := by decide +kernel
theorem dX8_assignsAll_65 : decode cX8_assignsAll 65 = .ok (.iload 5, 2) := by decide +kernel
theorem dX8_assignsAll_67 : decode cX8_assignsAll 67 = .ok (.ifCond .eq 29, 3) := by decide +kernel
theorem dX8_assignsAll_70 : decode cX8_assignsAll 70 = .ok (.iload_n 3, 1) := by decide +kernel
theorem dX8_assignsAll_71 : decode cX8_assignsAll 71 = .ok (.iconst (-1), 1) := by decide +kernel
theorem dX8_assignsAll_72 : decode cX8_assignsAll 72 = .ok (.if_icmp .eq 21, 3) := by decide +kernel
theorem dX8_assignsAll_75 : decode cX8_assignsAll 75 = .ok (.aload_n 0, 1) := by decide +kernel
theorem dX8_assignsAll_76 : decode cX8_assignsAll 76 = .ok (.iload 4, 2) := by decide +kernel
theorem dX8_assignsAll_78 : decode cX8_assignsAll 78 = .ok (.iconst 3, 1) := by decide +kernel
theorem dX8_assignsAll_79 : decode cX8_assignsAll 79 = .ok (.invokestatic 59, 3) := by decide +kernel
theorem dX8_assignsAll_82 : decode cX8_assignsAll 82 = .ok (.iaload, 1) := by decide +kernel
theorem dX8_assignsAll_83 : decode cX8_assignsAll 83 = .ok (.aload_n 0, 1) := by decide +kernel
theorem dX8_assignsAll_84 : decode cX8_assignsAll 84 = .ok (.iload_n 3, 1) := by decide +kernel
theorem dX8_assignsAll_85 : decode cX8_assignsAll 85 = .ok (.iconst 3, 1) := by decide +kernel
theorem dX8_assignsAll_86 : decode cX8_assignsAll 86 = .ok (.invokestatic 59, 3) := by decide +kernel
theorem dX8_assignsAll_89 : decode cX8_assignsAll 89 = .ok (.iaload, 1) := by decide +kernel
theorem dX8_assignsAll_90 : decode cX8_assignsAll 90 = .ok (.if_icmp .ge 6, 3) := by decide +kernel
theorem dX8_assignsAll_93 : decode cX8_assignsAll 93 = .ok (.iload 4, 2) := by decide +kernel
theorem dX8_assignsAll_95 : decode cX8_assignsAll 95 = .ok (.istore_n 3, 1) := by decide +kernel
theorem dX8_assignsAll_96 : decode cX8_assignsAll 96 = .ok (.iinc 4 1, 3) := by decide +kernel
theorem dX8_assignsAll_99 : decode cX8_assignsAll 99 = .ok (.goto (-60), 3) := by decide +kernel
theorem dX8_assignsAll_102 : decode cX8_assignsAll 102 = .ok (.aload_n 0, 1) := by decide +kernel
theorem dX8_assignsAll_103 : decode cX8_assignsAll 103 = .ok (.iload_n 3, 1) := by decide +kernel
theorem dX8_assignsAll_104 : decode cX8_assignsAll 104 = .ok (.bipush 6, 2) := by decide +kernel
theorem dX8_assignsAll_106 : decode cX8_assignsAll 106 = .ok (.invokestatic 59, 3) := by decide +kernel
theorem dX8_assignsAll_109 : decode cX8_assignsAll 109 = .ok (.aload_n 0, 1) := by decide +kernel
theorem dX8_assignsAll_110 : decode cX8_assignsAll 110 = .ok (.aload_n 0, 1) := by decide +kernel
theorem dX8_assignsAll_111 : decode cX8_assignsAll 111 = .ok (.iload_n 3, 1) := by decide +kernel
theorem dX8_assignsAll_112 : decode cX8_assignsAll 112 = .ok (.iconst 5, 1) := by decide +kernel
theorem dX8_assignsAll_113 : decode cX8_assignsAll 113 = .ok (.invokestatic 59, 3) := by decide +kernel
theorem dX8_assignsAll_116 : decode cX8_assignsAll 116 = .ok (.iaload, 1) := by decide +kernel
theorem dX8_assignsAll_117 : decode cX8_assignsAll 117 = .ok (.invokestatic 175, 3) := by decide +kernel
theorem dX8_assignsAll_120 : decode cX8_assignsAll 120 = .ok (.iastore, 1) := by decide +kernel
theorem dX8_assignsAll_121 : decode cX8_assignsAll 121 = .ok (.iinc 2 1, 3) := by decide +kernel
theorem dX8_assignsAll_124 : decode cX8_assignsAll 124 = .ok (.goto (-95), 3) := by decide +kernel
theorem dX8_assignsAll_127 : decode cX8_assignsAll 127 = .ok (.return_, 1) := by decide +kernel
set_option maxRecDepth 20000 in
theorem s_X8_assignsAll_0 {l : Launch} {G : GT} {d : Nat} {Q : AV → AH → Prop} {H : AH} {a0 : Int} (h_r0 : Lay (LArr 10 440) H a0) (h : AW l G mX8_assignsAll (d + 1) 0 0 Q 7 [vR a0, vI (hg H a0 6), vI 0, vU, vU, vU] [] 0 0 H) : AW l G mX8_assignsAll (d + 1) 0 0 Q 0 [vR a0, vU, vU, vU, vU, vU] [] 0 0 H := by
  refine a_aload_n dX8_assignsAll_0 rfl rfl ?_
  refine a_bipush dX8_assignsAll_1 (by decide) ?_
  refine b_iald dX8_assignsAll_3 (kArr_0 h_r0) (nArr_0 h_r0) (⟨by decide, by decide⟩) ?_
  refine a_istore_n dX8_assignsAll_4 rfl (Nat.le_of_ble_eq_true rfl) (ls' := [vR a0, vI (hg H a0 6), vU, vU, vU, vU]) rfl ?_
  refine a_iconst dX8_assignsAll_5 ⟨by decide, by decide⟩ ?_
  refine a_istore_n dX8_assignsAll_6 rfl (Nat.le_of_ble_eq_true rfl) (ls' := [vR a0, vI (hg H a0 6), vI 0, vU, vU, vU]) rfl ?_
  exact h

set_option maxRecDepth 20000 in
theorem s_X8_assignsAll_7 {l : Launch} {G : GT} {d : Nat} {Q : AV → AH → Prop} {H : AH} {a0 x1 x2 : Int} (h_r0 : Lay (LArr 10 440) H a0) (h : (x1 ≤ x2 → AW l G mX8_assignsAll (d + 1) 0 0 Q 29 [vR a0, vI x1, vI 0, vU, vU, vU] [] 0 0 H) ∧ (x2 < x1 → (0 ≤ x2 ∧ x2 ≤ 30) ∧ (0 ≤ (56 + 16 * x2 + 6) ∧ (56 + 16 * x2 + 6) < 440) ∧ ∀ H1 : AH, H1 = hs H a0 (56 + 16 * x2 + 6) (-1) → (-2147483648 ≤ x2 + 1 ∧ x2 + 1 ≤ 2147483647) ∧ AW l G mX8_assignsAll (d + 1) 0 0 Q 7 [vR a0, vI x1, vI (x2 + 1), vU, vU, vU] [] 0 0 H1)) : AW l G mX8_assignsAll (d + 1) 0 0 Q 7 [vR a0, vI x1, vI x2, vU, vU, vU] [] 0 0 H := by
  refine a_iload_n dX8_assignsAll_7 rfl rfl ?_
  refine a_iload_n dX8_assignsAll_8 rfl rfl ?_
  refine a_icmp_ge dX8_assignsAll_9 (tgt := 27) rfl (fun c9 => ?_) (fun c9 => ?_)
  · replace h := h.1 c9
    refine a_iconst dX8_assignsAll_27 ⟨by decide, by decide⟩ ?_
    refine a_istore_n dX8_assignsAll_28 rfl (Nat.le_of_ble_eq_true rfl) (ls' := [vR a0, vI x1, vI 0, vU, vU, vU]) rfl ?_
    exact h
  · replace h := h.2 c9
    refine a_aload_n dX8_assignsAll_12 rfl rfl ?_
    refine a_iload_n dX8_assignsAll_13 rfl rfl ?_
    refine a_bipush dX8_assignsAll_14 (by decide) ?_
    obtain ⟨q16_0, h⟩ := h
    refine a_callS dX8_assignsAll_16 cw_X8_assignsAll_16 (as := [vI x2, vI 6]) rfl rfl (Nat.le_refl _) (Nat.le_of_ble_eq_true rfl) (nocov rfl) (Nat.le_of_ble_eq_true rfl) (Nat.le_of_ble_eq_true rfl) (CL.mono (c_at  ⟨q16_0.1, q16_0.2, by decide, by decide⟩) (fun r9 H9 h9 => ?_))
    rw [h9.1, h9.2]
    show AW l G mX8_assignsAll (d + 1) 0 0 Q 19 [vR a0, vI x1, vI x2, vU, vU, vU] [vI (56 + 16 * x2 + 6), vR a0] 0 0 H
    refine a_iconst dX8_assignsAll_19 ⟨by decide, by decide⟩ ?_
    obtain ⟨q20_0, h⟩ := h
    refine b_iast dX8_assignsAll_20 (kArr_0 h_r0) (nArr_0 h_r0) q20_0 ?_
    have h_r0_1 := Lay.wr h_r0 ok_Arr (nrf_arr (kArr_0 h_r0) (by decide) (by decide)) (i := (56 + 16 * x2 + 6)) (x := (-1))
    generalize e_H1 : hs H a0 (56 + 16 * x2 + 6) (-1) = H1 at h_r0_1 ⊢
    replace h := h H1 e_H1.symm
    obtain ⟨q21_0, h⟩ := h
    refine a_iinc dX8_assignsAll_21 rfl (Nat.le_of_ble_eq_true rfl) (by decide) q21_0 (ls' := [vR a0, vI x1, vI (x2 + 1), vU, vU, vU]) rfl ?_
    refine a_goto dX8_assignsAll_24 (tgt := 7) rfl ?_
    exact h

set_option maxRecDepth 20000 in
theorem s_X8_assignsAll_29 {l : Launch} {G : GT} {d : Nat} {Q : AV → AH → Prop} {H : AH} {a0 x1 x2 : Int} (h_r0 : Lay (LArr 10 440) H a0) (h : (x1 ≤ x2 → Q vV H) ∧ (x2 < x1 → AW l G mX8_assignsAll (d + 1) 0 0 Q 39 [vR a0, vI x1, vI x2, vI (-1), vI 0, vU] [] 0 0 H)) : AW l G mX8_assignsAll (d + 1) 0 0 Q 29 [vR a0, vI x1, vI x2, vU, vU, vU] [] 0 0 H := by
  refine a_iload_n dX8_assignsAll_29 rfl rfl ?_
  refine a_iload_n dX8_assignsAll_30 rfl rfl ?_
  refine a_icmp_ge dX8_assignsAll_31 (tgt := 127) rfl (fun c31 => ?_) (fun c31 => ?_)
  · replace h := h.1 c31
    exact a_vret dX8_assignsAll_127 rfl (Nat.le_of_ble_eq_true rfl) (Nat.le_of_ble_eq_true rfl) h
  · replace h := h.2 c31
    refine a_iconst dX8_assignsAll_34 ⟨by decide, by decide⟩ ?_
    refine a_istore_n dX8_assignsAll_35 rfl (Nat.le_of_ble_eq_true rfl) (ls' := [vR a0, vI x1, vI x2, vI (-1), vU, vU]) rfl ?_
    refine a_iconst dX8_assignsAll_36 ⟨by decide, by decide⟩ ?_
    refine a_istore dX8_assignsAll_37 (Nat.le_of_ble_eq_true rfl) (ls' := [vR a0, vI x1, vI x2, vI (-1), vI 0, vU]) rfl ?_
    exact h

set_option maxRecDepth 20000 in
theorem s_X8_assignsAll_39 {l : Launch} {G : GT} {d : Nat} {Q : AV → AH → Prop} {H : AH} {a0 x1 x2 x3 x4 : Int} (h_r0 : Lay (LArr 10 440) H a0) (h : (x1 ≤ x4 → (0 ≤ x3 ∧ x3 ≤ 30) ∧ (0 ≤ (56 + 16 * x3 + 5) ∧ (56 + 16 * x3 + 5) < 440) ∧ CL l G mX8_emptiest d 0 0 [vR a0, vI (hg H a0 (56 + 16 * x3 + 5))] H (fun r9 H1 => Lay (LArr 10 440) H1 a0 ∧ ∃ y1 : Int, r9 = vI y1 ∧ (0 ≤ (56 + 16 * x3 + 6) ∧ (56 + 16 * x3 + 6) < 440) ∧ ∀ H2 : AH, H2 = hs H1 a0 (56 + 16 * x3 + 6) y1 → (-2147483648 ≤ x2 + 1 ∧ x2 + 1 ≤ 2147483647) ∧ AW l G mX8_assignsAll (d + 1) 0 0 Q 29 [vR a0, vI x1, vI (x2 + 1), vU, vU, vU] [] 0 0 H2)) ∧ (x4 < x1 → (0 ≤ x4 ∧ x4 ≤ 30) ∧ (0 ≤ (56 + 16 * x4 + 6) ∧ (56 + 16 * x4 + 6) < 440) ∧ (¬ (hg H a0 (56 + 16 * x4 + 6)) = (-1) → (-2147483648 ≤ x4 + 1 ∧ x4 + 1 ≤ 2147483647) ∧ AW l G mX8_assignsAll (d + 1) 0 0 Q 39 [vR a0, vI x1, vI x2, vI x3, vI (x4 + 1), vU] [] 0 0 H) ∧ ((hg H a0 (56 + 16 * x4 + 6)) = (-1) → (x3 = (-1) → (-2147483648 ≤ x4 + 1 ∧ x4 + 1 ≤ 2147483647) ∧ AW l G mX8_assignsAll (d + 1) 0 0 Q 39 [vR a0, vI x1, vI x2, vI x4, vI (x4 + 1), vU] [] 0 0 H) ∧ (¬ x3 = (-1) → (0 ≤ (56 + 16 * x4 + 3) ∧ (56 + 16 * x4 + 3) < 440) ∧ (0 ≤ x3 ∧ x3 ≤ 30) ∧ (0 ≤ (56 + 16 * x3 + 3) ∧ (56 + 16 * x3 + 3) < 440) ∧ ((hg H a0 (56 + 16 * x3 + 3)) ≤ (hg H a0 (56 + 16 * x4 + 3)) → (-2147483648 ≤ x4 + 1 ∧ x4 + 1 ≤ 2147483647) ∧ AW l G mX8_assignsAll (d + 1) 0 0 Q 39 [vR a0, vI x1, vI x2, vI x3, vI (x4 + 1), vU] [] 0 0 H) ∧ ((hg H a0 (56 + 16 * x4 + 3)) < (hg H a0 (56 + 16 * x3 + 3)) → (-2147483648 ≤ x4 + 1 ∧ x4 + 1 ≤ 2147483647) ∧ AW l G mX8_assignsAll (d + 1) 0 0 Q 39 [vR a0, vI x1, vI x2, vI x4, vI (x4 + 1), vU] [] 0 0 H))))) : AW l G mX8_assignsAll (d + 1) 0 0 Q 39 [vR a0, vI x1, vI x2, vI x3, vI x4, vU] [] 0 0 H := by
  refine a_iload dX8_assignsAll_39 rfl ?_
  refine a_iload_n dX8_assignsAll_41 rfl rfl ?_
  refine a_icmp_ge dX8_assignsAll_42 (tgt := 102) rfl (fun c42 => ?_) (fun c42 => ?_)
  · replace h := h.1 c42
    refine a_aload_n dX8_assignsAll_102 rfl rfl ?_
    refine a_iload_n dX8_assignsAll_103 rfl rfl ?_
    refine a_bipush dX8_assignsAll_104 (by decide) ?_
    obtain ⟨q106_0, h⟩ := h
    refine a_callS dX8_assignsAll_106 cw_X8_assignsAll_106 (as := [vI x3, vI 6]) rfl rfl (Nat.le_refl _) (Nat.le_of_ble_eq_true rfl) (nocov rfl) (Nat.le_of_ble_eq_true rfl) (Nat.le_of_ble_eq_true rfl) (CL.mono (c_at  ⟨q106_0.1, q106_0.2, by decide, by decide⟩) (fun r9 H9 h9 => ?_))
    rw [h9.1, h9.2]
    show AW l G mX8_assignsAll (d + 1) 0 0 Q 109 [vR a0, vI x1, vI x2, vI x3, vI x4, vU] [vI (56 + 16 * x3 + 6), vR a0] 0 0 H
    refine a_aload_n dX8_assignsAll_109 rfl rfl ?_
    refine a_aload_n dX8_assignsAll_110 rfl rfl ?_
    refine a_iload_n dX8_assignsAll_111 rfl rfl ?_
    refine a_iconst dX8_assignsAll_112 ⟨by decide, by decide⟩ ?_
    refine a_callS dX8_assignsAll_113 cw_X8_assignsAll_113 (as := [vI x3, vI 5]) rfl rfl (Nat.le_refl _) (Nat.le_of_ble_eq_true rfl) (nocov rfl) (Nat.le_of_ble_eq_true rfl) (Nat.le_of_ble_eq_true rfl) (CL.mono (c_at  ⟨q106_0.1, q106_0.2, by decide, by decide⟩) (fun r9 H9 h9 => ?_))
    rw [h9.1, h9.2]
    show AW l G mX8_assignsAll (d + 1) 0 0 Q 116 [vR a0, vI x1, vI x2, vI x3, vI x4, vU] [vI (56 + 16 * x3 + 5), vR a0, vR a0, vI (56 + 16 * x3 + 6), vR a0] 0 0 H
    obtain ⟨q116_0, h⟩ := h
    refine b_iald dX8_assignsAll_116 (kArr_0 h_r0) (nArr_0 h_r0) q116_0 ?_
    refine a_callS dX8_assignsAll_117 cw_X8_assignsAll_117 (as := [vR a0, vI (hg H a0 (56 + 16 * x3 + 5))]) rfl rfl (Nat.le_refl _) (Nat.le_of_ble_eq_true rfl) (nocov rfl) (Nat.le_of_ble_eq_true rfl) (Nat.le_of_ble_eq_true rfl) (CL.mono h (fun r9 H1 h => ?_))
    obtain ⟨h_r0_1, y1, e9, h⟩ := h
    rw [e9]
    show AW l G mX8_assignsAll (d + 1) 0 0 Q 120 [vR a0, vI x1, vI x2, vI x3, vI x4, vU] [vI y1, vI (56 + 16 * x3 + 6), vR a0] 0 0 H1
    obtain ⟨q120_0, h⟩ := h
    refine b_iast dX8_assignsAll_120 (kArr_0 h_r0_1) (nArr_0 h_r0_1) q120_0 ?_
    have h_r0_2 := Lay.wr h_r0_1 ok_Arr (nrf_arr (kArr_0 h_r0_1) (by decide) (by decide)) (i := (56 + 16 * x3 + 6)) (x := y1)
    generalize e_H2 : hs H1 a0 (56 + 16 * x3 + 6) y1 = H2 at h_r0_2 ⊢
    replace h := h H2 e_H2.symm
    obtain ⟨q121_0, h⟩ := h
    refine a_iinc dX8_assignsAll_121 rfl (Nat.le_of_ble_eq_true rfl) (by decide) q121_0 (ls' := [vR a0, vI x1, vI (x2 + 1), vI x3, vI x4, vU]) rfl ?_
    refine a_goto dX8_assignsAll_124 (tgt := 29) rfl ?_
    exact a_weak (wk_e (wk_e (wk_e (wk_u (wk_u (wk_u wk_n)))))) h
  · replace h := h.2 c42
    refine a_aload_n dX8_assignsAll_45 rfl rfl ?_
    refine a_iload dX8_assignsAll_46 rfl ?_
    refine a_bipush dX8_assignsAll_48 (by decide) ?_
    obtain ⟨q50_0, h⟩ := h
    refine a_callS dX8_assignsAll_50 cw_X8_assignsAll_50 (as := [vI x4, vI 6]) rfl rfl (Nat.le_refl _) (Nat.le_of_ble_eq_true rfl) (nocov rfl) (Nat.le_of_ble_eq_true rfl) (Nat.le_of_ble_eq_true rfl) (CL.mono (c_at  ⟨q50_0.1, q50_0.2, by decide, by decide⟩) (fun r9 H9 h9 => ?_))
    rw [h9.1, h9.2]
    show AW l G mX8_assignsAll (d + 1) 0 0 Q 53 [vR a0, vI x1, vI x2, vI x3, vI x4, vU] [vI (56 + 16 * x4 + 6), vR a0] 0 0 H
    obtain ⟨q53_0, h⟩ := h
    refine b_iald dX8_assignsAll_53 (kArr_0 h_r0) (nArr_0 h_r0) q53_0 ?_
    refine a_iconst dX8_assignsAll_54 ⟨by decide, by decide⟩ ?_
    refine a_icmp_ne dX8_assignsAll_55 (tgt := 62) rfl (fun c55 => ?_) (fun c55 => ?_)
    · replace h := h.1 c55
      refine a_iconst dX8_assignsAll_62 ⟨by decide, by decide⟩ ?_
      refine a_istore dX8_assignsAll_63 (Nat.le_of_ble_eq_true rfl) (ls' := [vR a0, vI x1, vI x2, vI x3, vI x4, vI 0]) rfl ?_
      refine a_iload dX8_assignsAll_65 rfl ?_
      refine a_if_eq dX8_assignsAll_67 (tgt := 96) rfl (fun _ => ?_) (fun c9 => absurd c9 (by decide))
      obtain ⟨q96_0, h⟩ := h
      refine a_iinc dX8_assignsAll_96 rfl (Nat.le_of_ble_eq_true rfl) (by decide) q96_0 (ls' := [vR a0, vI x1, vI x2, vI x3, vI (x4 + 1), vI 0]) rfl ?_
      refine a_goto dX8_assignsAll_99 (tgt := 39) rfl ?_
      exact a_weak (wk_e (wk_e (wk_e (wk_e (wk_e (wk_u wk_n)))))) h
    · replace h := h.2 c55
      refine a_iconst dX8_assignsAll_58 ⟨by decide, by decide⟩ ?_
      refine a_goto dX8_assignsAll_59 (tgt := 63) rfl ?_
      refine a_istore dX8_assignsAll_63 (Nat.le_of_ble_eq_true rfl) (ls' := [vR a0, vI x1, vI x2, vI x3, vI x4, vI 1]) rfl ?_
      refine a_iload dX8_assignsAll_65 rfl ?_
      refine a_if_eq dX8_assignsAll_67 (tgt := 96) rfl (fun c9 => absurd c9 (by decide)) (fun _ => ?_)
      refine a_iload_n dX8_assignsAll_70 rfl rfl ?_
      refine a_iconst dX8_assignsAll_71 ⟨by decide, by decide⟩ ?_
      refine a_icmp_eq dX8_assignsAll_72 (tgt := 93) rfl (fun c72 => ?_) (fun c72 => ?_)
      · replace h := h.1 c72
        refine a_iload dX8_assignsAll_93 rfl ?_
        refine a_istore_n dX8_assignsAll_95 rfl (Nat.le_of_ble_eq_true rfl) (ls' := [vR a0, vI x1, vI x2, vI x4, vI x4, vI 1]) rfl ?_
        obtain ⟨q96_0, h⟩ := h
        refine a_iinc dX8_assignsAll_96 rfl (Nat.le_of_ble_eq_true rfl) (by decide) q96_0 (ls' := [vR a0, vI x1, vI x2, vI x4, vI (x4 + 1), vI 1]) rfl ?_
        refine a_goto dX8_assignsAll_99 (tgt := 39) rfl ?_
        exact a_weak (wk_e (wk_e (wk_e (wk_e (wk_e (wk_u wk_n)))))) h
      · replace h := h.2 c72
        refine a_aload_n dX8_assignsAll_75 rfl rfl ?_
        refine a_iload dX8_assignsAll_76 rfl ?_
        refine a_iconst dX8_assignsAll_78 ⟨by decide, by decide⟩ ?_
        refine a_callS dX8_assignsAll_79 cw_X8_assignsAll_79 (as := [vI x4, vI 3]) rfl rfl (Nat.le_refl _) (Nat.le_of_ble_eq_true rfl) (nocov rfl) (Nat.le_of_ble_eq_true rfl) (Nat.le_of_ble_eq_true rfl) (CL.mono (c_at  ⟨q50_0.1, q50_0.2, by decide, by decide⟩) (fun r9 H9 h9 => ?_))
        rw [h9.1, h9.2]
        show AW l G mX8_assignsAll (d + 1) 0 0 Q 82 [vR a0, vI x1, vI x2, vI x3, vI x4, vI 1] [vI (56 + 16 * x4 + 3), vR a0] 0 0 H
        obtain ⟨q82_0, h⟩ := h
        refine b_iald dX8_assignsAll_82 (kArr_0 h_r0) (nArr_0 h_r0) q82_0 ?_
        refine a_aload_n dX8_assignsAll_83 rfl rfl ?_
        refine a_iload_n dX8_assignsAll_84 rfl rfl ?_
        refine a_iconst dX8_assignsAll_85 ⟨by decide, by decide⟩ ?_
        obtain ⟨q86_0, h⟩ := h
        refine a_callS dX8_assignsAll_86 cw_X8_assignsAll_86 (as := [vI x3, vI 3]) rfl rfl (Nat.le_refl _) (Nat.le_of_ble_eq_true rfl) (nocov rfl) (Nat.le_of_ble_eq_true rfl) (Nat.le_of_ble_eq_true rfl) (CL.mono (c_at  ⟨q86_0.1, q86_0.2, by decide, by decide⟩) (fun r9 H9 h9 => ?_))
        rw [h9.1, h9.2]
        show AW l G mX8_assignsAll (d + 1) 0 0 Q 89 [vR a0, vI x1, vI x2, vI x3, vI x4, vI 1] [vI (56 + 16 * x3 + 3), vR a0, vI (hg H a0 (56 + 16 * x4 + 3))] 0 0 H
        obtain ⟨q89_0, h⟩ := h
        refine b_iald dX8_assignsAll_89 (kArr_0 h_r0) (nArr_0 h_r0) q89_0 ?_
        refine a_icmp_ge dX8_assignsAll_90 (tgt := 96) rfl (fun c90 => ?_) (fun c90 => ?_)
        · replace h := h.1 c90
          obtain ⟨q96_0, h⟩ := h
          refine a_iinc dX8_assignsAll_96 rfl (Nat.le_of_ble_eq_true rfl) (by decide) q96_0 (ls' := [vR a0, vI x1, vI x2, vI x3, vI (x4 + 1), vI 1]) rfl ?_
          refine a_goto dX8_assignsAll_99 (tgt := 39) rfl ?_
          exact a_weak (wk_e (wk_e (wk_e (wk_e (wk_e (wk_u wk_n)))))) h
        · replace h := h.2 c90
          refine a_iload dX8_assignsAll_93 rfl ?_
          refine a_istore_n dX8_assignsAll_95 rfl (Nat.le_of_ble_eq_true rfl) (ls' := [vR a0, vI x1, vI x2, vI x4, vI x4, vI 1]) rfl ?_
          obtain ⟨q96_0, h⟩ := h
          refine a_iinc dX8_assignsAll_96 rfl (Nat.le_of_ble_eq_true rfl) (by decide) q96_0 (ls' := [vR a0, vI x1, vI x2, vI x4, vI (x4 + 1), vI 1]) rfl ?_
          refine a_goto dX8_assignsAll_99 (tgt := 39) rfl ?_
          exact a_weak (wk_e (wk_e (wk_e (wk_e (wk_e (wk_u wk_n)))))) h


theorem dX8_emptiest_0 : decode cX8_emptiest 0 = .ok (.iconst (-1), 1) := by decide +kernel
theorem dX8_emptiest_1 : decode cX8_emptiest 1 = .ok (.istore_n 2, 1) := by decide +kernel
theorem dX8_emptiest_2 : decode cX8_emptiest 2 = .ok (.iconst 0, 1) := by decide +kernel
theorem dX8_emptiest_3 : decode cX8_emptiest 3 = .ok (.istore_n 3, 1) := by decide +kernel
theorem dX8_emptiest_4 : decode cX8_emptiest 4 = .ok (.iconst 0, 1) := by decide +kernel
theorem dX8_emptiest_5 : decode cX8_emptiest 5 = .ok (.istore 4, 2) := by decide +kernel
theorem dX8_emptiest_7 : decode cX8_emptiest 7 = .ok (.iload 4, 2) := by decide +kernel
theorem dX8_emptiest_9 : decode cX8_emptiest 9 = .ok (.aload_n 0, 1) := by decide +kernel
theorem dX8_emptiest_10 : decode cX8_emptiest 10 = .ok (.iconst 5, 1) := by decide +kernel
theorem dX8_emptiest_11 : decode cX8_emptiest 11 = .ok (.iaload, 1) := by decide +kernel
theorem dX8_emptiest_12 : decode cX8_emptiest 12 = .ok (.if_icmp .ge 81, 3) := by decide +kernel
theorem dX8_emptiest_15 : decode cX8_emptiest 15 = .ok (.iconst 0, 1) := by decide +kernel
theorem dX8_emptiest_16 : decode cX8_emptiest 16 = .ok (.istore 5, 2) := by decide +kernel
theorem dX8_emptiest_18 : decode cX8_emptiest 18 = .ok (.iconst 0, 1) := by decide +kernel
theorem dX8_emptiest_19 : decode cX8_emptiest 19 = .ok (.istore 6, 2) := by decide +kernel
theorem dX8_emptiest_21 : decode cX8_emptiest 21 = .ok (.iload 6, 2) := by decide +kernel
theorem dX8_emptiest_23 : decode cX8_emptiest 23 = .ok (.aload_n 0, 1) := by decide +kernel
theorem dX8_emptiest_24 : decode cX8_emptiest 24 = .ok (.bipush 6, 2) := by decide +kernel
theorem dX8_emptiest_26 : decode cX8_emptiest 26 = .ok (.iaload, 1) := by decide +kernel
theorem dX8_emptiest_27 : decode cX8_emptiest 27 = .ok (.if_icmp .ge 33, 3) := by decide +kernel
theorem dX8_emptiest_30 : decode cX8_emptiest 30 = .ok (.iload 5, 2) := by decide +kernel
theorem dX8_emptiest_32 : decode cX8_emptiest 32 = .ok (.aload_n 0, 1) := by decide +kernel
theorem dX8_emptiest_33 : decode cX8_emptiest 33 = .ok (.iload 6, 2) := by decide +kernel
theorem dX8_emptiest_35 : decode cX8_emptiest 35 = .ok (.bipush 6, 2) := by decide +kernel
theorem dX8_emptiest_37 : decode cX8_emptiest 37 = .ok (.invokestatic 59, 3) := by decide +kernel
theorem dX8_emptiest_40 : decode cX8_emptiest 40 = .ok (.iaload, 1) := by decide +kernel
theorem dX8_emptiest_41 : decode cX8_emptiest 41 = .ok (.iload 4, 2) := by decide +kernel
theorem dX8_emptiest_43 : decode cX8_emptiest 43 = .ok (.if_icmp .ne 7, 3) := by decide +kernel
theorem dX8_emptiest_46 : decode cX8_emptiest 46 = .ok (.iconst 1, 1) := by decide +kernel
theorem dX8_emptiest_47 : decode cX8_emptiest 47 = .ok (.goto 4, 3) := by decide +kernel
theorem dX8_emptiest_50 : decode cX8_emptiest 50 = .ok (.iconst 0, 1) := by decide +kernel
theorem dX8_emptiest_51 : decode cX8_emptiest 51 = .ok (.iadd, 1) := by decide +kernel
theorem dX8_emptiest_52 : decode cX8_emptiest 52 = .ok (.istore 5, 2) := by decide +kernel
theorem dX8_emptiest_54 : decode cX8_emptiest 54 = .ok (.iinc 6 1, 3) := by decide +kernel
theorem dX8_emptiest_57 : decode cX8_emptiest 57 = .ok (.goto (-36), 3) := by decide +kernel
theorem dX8_emptiest_60 : decode cX8_emptiest 60 = .ok (.iload_n 1, 1) := by decide +kernel
theorem dX8_emptiest_61 : decode cX8_emptiest 61 = .ok (.iload 4, 2) := by decide +kernel
theorem dX8_emptiest_63 : decode cX8_emptiest 63 = .ok (.ishr, 1) := by decide +kernel
theorem dX8_emptiest_64 : decode cX8_emptiest 64 = .ok (.iconst 1, 1) := by decide +kernel
theorem dX8_emptiest_65 : decode cX8_emptiest 65 = .ok (.iand, 1) := by decide +kernel
theorem dX8_emptiest_66 : decode cX8_emptiest 66 = .ok (.iconst 1, 1) := by decide +kernel
theorem dX8_emptiest_67 : decode cX8_emptiest 67 = .ok (.if_icmp .ne 20, 3) := by decide +kernel
theorem dX8_emptiest_70 : decode cX8_emptiest 70 = .ok (.iload_n 2, 1) := by decide +kernel
theorem dX8_emptiest_71 : decode cX8_emptiest 71 = .ok (.iconst (-1), 1) := by decide +kernel
theorem dX8_emptiest_72 : decode cX8_emptiest 72 = .ok (.if_icmp .eq 9, 3) := by decide +kernel
theorem dX8_emptiest_75 : decode cX8_emptiest 75 = .ok (.iload 5, 2) := by decide +kernel
theorem dX8_emptiest_77 : decode cX8_emptiest 77 = .ok (.iload_n 3, 1) := by decide +kernel
theorem dX8_emptiest_78 : decode cX8_emptiest 78 = .ok (.if_icmp .ge 9, 3) := by decide +kernel
theorem dX8_emptiest_81 : decode cX8_emptiest 81 = .ok (.iload 4, 2) := by decide +kernel
theorem dX8_emptiest_83 : decode cX8_emptiest 83 = .ok (.istore_n 2, 1) := by decide +kernel
theorem dX8_emptiest_84 : decode cX8_emptiest 84 = .ok (.iload 5, 2) := by decide +kernel
theorem dX8_emptiest_86 : decode cX8_emptiest 86 = .ok (.istore_n 3, 1) := by decide +kernel
theorem dX8_emptiest_87 : decode cX8_emptiest 87 = .ok (.iinc 4 1, 3) := by decide +kernel
theorem dX8_emptiest_90 : decode cX8_emptiest 90 = .ok (.goto (-83), 3) := by decide +kernel
theorem dX8_emptiest_93 : decode cX8_emptiest 93 = .ok (.iload_n 2, 1) := by decide +kernel
theorem dX8_emptiest_94 : decode cX8_emptiest 94 = .ok (.ireturn, 1) := by decide +kernel
set_option maxRecDepth 20000 in
theorem s_X8_emptiest_0 {l : Launch} {G : GT} {d : Nat} {Q : AV → AH → Prop} {H : AH} {a0 x1 : Int} (h_r0 : Lay (LArr 10 440) H a0) (h : AW l G mX8_emptiest (d + 1) 0 0 Q 7 [vR a0, vI x1, vI (-1), vI 0, vI 0, vU, vU] [] 0 0 H) : AW l G mX8_emptiest (d + 1) 0 0 Q 0 [vR a0, vI x1, vU, vU, vU, vU, vU] [] 0 0 H := by
  refine a_iconst dX8_emptiest_0 ⟨by decide, by decide⟩ ?_
  refine a_istore_n dX8_emptiest_1 rfl (Nat.le_of_ble_eq_true rfl) (ls' := [vR a0, vI x1, vI (-1), vU, vU, vU, vU]) rfl ?_
  refine a_iconst dX8_emptiest_2 ⟨by decide, by decide⟩ ?_
  refine a_istore_n dX8_emptiest_3 rfl (Nat.le_of_ble_eq_true rfl) (ls' := [vR a0, vI x1, vI (-1), vI 0, vU, vU, vU]) rfl ?_
  refine a_iconst dX8_emptiest_4 ⟨by decide, by decide⟩ ?_
  refine a_istore dX8_emptiest_5 (Nat.le_of_ble_eq_true rfl) (ls' := [vR a0, vI x1, vI (-1), vI 0, vI 0, vU, vU]) rfl ?_
  exact h

set_option maxRecDepth 20000 in
theorem s_X8_emptiest_7 {l : Launch} {G : GT} {d : Nat} {Q : AV → AH → Prop} {H : AH} {a0 x1 x2 x3 x4 : Int} (h_r0 : Lay (LArr 10 440) H a0) (h : ((hg H a0 5) ≤ x4 → Q (vI x2) H) ∧ (x4 < (hg H a0 5) → AW l G mX8_emptiest (d + 1) 0 0 Q 21 [vR a0, vI x1, vI x2, vI x3, vI x4, vI 0, vI 0] [] 0 0 H)) : AW l G mX8_emptiest (d + 1) 0 0 Q 7 [vR a0, vI x1, vI x2, vI x3, vI x4, vU, vU] [] 0 0 H := by
  refine a_iload dX8_emptiest_7 rfl ?_
  refine a_aload_n dX8_emptiest_9 rfl rfl ?_
  refine a_iconst dX8_emptiest_10 ⟨by decide, by decide⟩ ?_
  refine b_iald dX8_emptiest_11 (kArr_0 h_r0) (nArr_0 h_r0) (⟨by decide, by decide⟩) ?_
  refine a_icmp_ge dX8_emptiest_12 (tgt := 93) rfl (fun c12 => ?_) (fun c12 => ?_)
  · replace h := h.1 c12
    refine a_iload_n dX8_emptiest_93 rfl rfl ?_
    exact a_iret dX8_emptiest_94 rfl (Nat.le_of_ble_eq_true rfl) (Nat.le_of_ble_eq_true rfl) h
  · replace h := h.2 c12
    refine a_iconst dX8_emptiest_15 ⟨by decide, by decide⟩ ?_
    refine a_istore dX8_emptiest_16 (Nat.le_of_ble_eq_true rfl) (ls' := [vR a0, vI x1, vI x2, vI x3, vI x4, vI 0, vU]) rfl ?_
    refine a_iconst dX8_emptiest_18 ⟨by decide, by decide⟩ ?_
    refine a_istore dX8_emptiest_19 (Nat.le_of_ble_eq_true rfl) (ls' := [vR a0, vI x1, vI x2, vI x3, vI x4, vI 0, vI 0]) rfl ?_
    exact h

set_option maxRecDepth 20000 in
theorem s_X8_emptiest_21 {l : Launch} {G : GT} {d : Nat} {Q : AV → AH → Prop} {H : AH} {a0 x1 x2 x3 x4 x5 x6 : Int} (h_r0 : Lay (LArr 10 440) H a0) (h : ((hg H a0 6) ≤ x6 → (0 ≤ x4 ∧ x4 ≤ 31) ∧ (¬ ((shr x1 x4) % 2) = 1 → (-2147483648 ≤ x4 + 1 ∧ x4 + 1 ≤ 2147483647) ∧ AW l G mX8_emptiest (d + 1) 0 0 Q 7 [vR a0, vI x1, vI x2, vI x3, vI (x4 + 1), vU, vU] [] 0 0 H) ∧ (((shr x1 x4) % 2) = 1 → (x2 = (-1) → (-2147483648 ≤ x4 + 1 ∧ x4 + 1 ≤ 2147483647) ∧ AW l G mX8_emptiest (d + 1) 0 0 Q 7 [vR a0, vI x1, vI x4, vI x5, vI (x4 + 1), vU, vU] [] 0 0 H) ∧ (¬ x2 = (-1) → (x3 ≤ x5 → (-2147483648 ≤ x4 + 1 ∧ x4 + 1 ≤ 2147483647) ∧ AW l G mX8_emptiest (d + 1) 0 0 Q 7 [vR a0, vI x1, vI x2, vI x3, vI (x4 + 1), vU, vU] [] 0 0 H) ∧ (x5 < x3 → (-2147483648 ≤ x4 + 1 ∧ x4 + 1 ≤ 2147483647) ∧ AW l G mX8_emptiest (d + 1) 0 0 Q 7 [vR a0, vI x1, vI x4, vI x5, vI (x4 + 1), vU, vU] [] 0 0 H)))) ∧ (x6 < (hg H a0 6) → (0 ≤ x6 ∧ x6 ≤ 30) ∧ (0 ≤ (56 + 16 * x6 + 6) ∧ (56 + 16 * x6 + 6) < 440) ∧ (¬ (hg H a0 (56 + 16 * x6 + 6)) = x4 → (-2147483648 ≤ x5 + 0 ∧ x5 + 0 ≤ 2147483647) ∧ (-2147483648 ≤ x6 + 1 ∧ x6 + 1 ≤ 2147483647) ∧ AW l G mX8_emptiest (d + 1) 0 0 Q 21 [vR a0, vI x1, vI x2, vI x3, vI x4, vI (x5 + 0), vI (x6 + 1)] [] 0 0 H) ∧ ((hg H a0 (56 + 16 * x6 + 6)) = x4 → (-2147483648 ≤ x5 + 1 ∧ x5 + 1 ≤ 2147483647) ∧ (-2147483648 ≤ x6 + 1 ∧ x6 + 1 ≤ 2147483647) ∧ AW l G mX8_emptiest (d + 1) 0 0 Q 21 [vR a0, vI x1, vI x2, vI x3, vI x4, vI (x5 + 1), vI (x6 + 1)] [] 0 0 H))) : AW l G mX8_emptiest (d + 1) 0 0 Q 21 [vR a0, vI x1, vI x2, vI x3, vI x4, vI x5, vI x6] [] 0 0 H := by
  refine a_iload dX8_emptiest_21 rfl ?_
  refine a_aload_n dX8_emptiest_23 rfl rfl ?_
  refine a_bipush dX8_emptiest_24 (by decide) ?_
  refine b_iald dX8_emptiest_26 (kArr_0 h_r0) (nArr_0 h_r0) (⟨by decide, by decide⟩) ?_
  refine a_icmp_ge dX8_emptiest_27 (tgt := 60) rfl (fun c27 => ?_) (fun c27 => ?_)
  · replace h := h.1 c27
    refine a_iload_n dX8_emptiest_60 rfl rfl ?_
    refine a_iload dX8_emptiest_61 rfl ?_
    obtain ⟨q63_0, h⟩ := h
    refine a_ishr dX8_emptiest_63 q63_0 ?_
    refine a_iconst dX8_emptiest_64 ⟨by decide, by decide⟩ ?_
    refine a_iand1 dX8_emptiest_65 ?_
    refine a_iconst dX8_emptiest_66 ⟨by decide, by decide⟩ ?_
    refine a_icmp_ne dX8_emptiest_67 (tgt := 87) rfl (fun c67 => ?_) (fun c67 => ?_)
    · replace h := h.1 c67
      obtain ⟨q87_0, h⟩ := h
      refine a_iinc dX8_emptiest_87 rfl (Nat.le_of_ble_eq_true rfl) (by decide) q87_0 (ls' := [vR a0, vI x1, vI x2, vI x3, vI (x4 + 1), vI x5, vI x6]) rfl ?_
      refine a_goto dX8_emptiest_90 (tgt := 7) rfl ?_
      exact a_weak (wk_e (wk_e (wk_e (wk_e (wk_e (wk_u (wk_u wk_n))))))) h
    · replace h := h.2 c67
      refine a_iload_n dX8_emptiest_70 rfl rfl ?_
      refine a_iconst dX8_emptiest_71 ⟨by decide, by decide⟩ ?_
      refine a_icmp_eq dX8_emptiest_72 (tgt := 81) rfl (fun c72 => ?_) (fun c72 => ?_)
      · replace h := h.1 c72
        refine a_iload dX8_emptiest_81 rfl ?_
        refine a_istore_n dX8_emptiest_83 rfl (Nat.le_of_ble_eq_true rfl) (ls' := [vR a0, vI x1, vI x4, vI x3, vI x4, vI x5, vI x6]) rfl ?_
        refine a_iload dX8_emptiest_84 rfl ?_
        refine a_istore_n dX8_emptiest_86 rfl (Nat.le_of_ble_eq_true rfl) (ls' := [vR a0, vI x1, vI x4, vI x5, vI x4, vI x5, vI x6]) rfl ?_
        obtain ⟨q87_0, h⟩ := h
        refine a_iinc dX8_emptiest_87 rfl (Nat.le_of_ble_eq_true rfl) (by decide) q87_0 (ls' := [vR a0, vI x1, vI x4, vI x5, vI (x4 + 1), vI x5, vI x6]) rfl ?_
        refine a_goto dX8_emptiest_90 (tgt := 7) rfl ?_
        exact a_weak (wk_e (wk_e (wk_e (wk_e (wk_e (wk_u (wk_u wk_n))))))) h
      · replace h := h.2 c72
        refine a_iload dX8_emptiest_75 rfl ?_
        refine a_iload_n dX8_emptiest_77 rfl rfl ?_
        refine a_icmp_ge dX8_emptiest_78 (tgt := 87) rfl (fun c78 => ?_) (fun c78 => ?_)
        · replace h := h.1 c78
          obtain ⟨q87_0, h⟩ := h
          refine a_iinc dX8_emptiest_87 rfl (Nat.le_of_ble_eq_true rfl) (by decide) q87_0 (ls' := [vR a0, vI x1, vI x2, vI x3, vI (x4 + 1), vI x5, vI x6]) rfl ?_
          refine a_goto dX8_emptiest_90 (tgt := 7) rfl ?_
          exact a_weak (wk_e (wk_e (wk_e (wk_e (wk_e (wk_u (wk_u wk_n))))))) h
        · replace h := h.2 c78
          refine a_iload dX8_emptiest_81 rfl ?_
          refine a_istore_n dX8_emptiest_83 rfl (Nat.le_of_ble_eq_true rfl) (ls' := [vR a0, vI x1, vI x4, vI x3, vI x4, vI x5, vI x6]) rfl ?_
          refine a_iload dX8_emptiest_84 rfl ?_
          refine a_istore_n dX8_emptiest_86 rfl (Nat.le_of_ble_eq_true rfl) (ls' := [vR a0, vI x1, vI x4, vI x5, vI x4, vI x5, vI x6]) rfl ?_
          obtain ⟨q87_0, h⟩ := h
          refine a_iinc dX8_emptiest_87 rfl (Nat.le_of_ble_eq_true rfl) (by decide) q87_0 (ls' := [vR a0, vI x1, vI x4, vI x5, vI (x4 + 1), vI x5, vI x6]) rfl ?_
          refine a_goto dX8_emptiest_90 (tgt := 7) rfl ?_
          exact a_weak (wk_e (wk_e (wk_e (wk_e (wk_e (wk_u (wk_u wk_n))))))) h
  · replace h := h.2 c27
    refine a_iload dX8_emptiest_30 rfl ?_
    refine a_aload_n dX8_emptiest_32 rfl rfl ?_
    refine a_iload dX8_emptiest_33 rfl ?_
    refine a_bipush dX8_emptiest_35 (by decide) ?_
    obtain ⟨q37_0, h⟩ := h
    refine a_callS dX8_emptiest_37 cw_X8_emptiest_37 (as := [vI x6, vI 6]) rfl rfl (Nat.le_refl _) (Nat.le_of_ble_eq_true rfl) (nocov rfl) (Nat.le_of_ble_eq_true rfl) (Nat.le_of_ble_eq_true rfl) (CL.mono (c_at  ⟨q37_0.1, q37_0.2, by decide, by decide⟩) (fun r9 H9 h9 => ?_))
    rw [h9.1, h9.2]
    show AW l G mX8_emptiest (d + 1) 0 0 Q 40 [vR a0, vI x1, vI x2, vI x3, vI x4, vI x5, vI x6] [vI (56 + 16 * x6 + 6), vR a0, vI x5] 0 0 H
    obtain ⟨q40_0, h⟩ := h
    refine b_iald dX8_emptiest_40 (kArr_0 h_r0) (nArr_0 h_r0) q40_0 ?_
    refine a_iload dX8_emptiest_41 rfl ?_
    refine a_icmp_ne dX8_emptiest_43 (tgt := 50) rfl (fun c43 => ?_) (fun c43 => ?_)
    · replace h := h.1 c43
      refine a_iconst dX8_emptiest_50 ⟨by decide, by decide⟩ ?_
      obtain ⟨q51_0, h⟩ := h
      refine a_iadd dX8_emptiest_51 q51_0 ?_
      refine a_istore dX8_emptiest_52 (Nat.le_of_ble_eq_true rfl) (ls' := [vR a0, vI x1, vI x2, vI x3, vI x4, vI (x5 + 0), vI x6]) rfl ?_
      obtain ⟨q54_0, h⟩ := h
      refine a_iinc dX8_emptiest_54 rfl (Nat.le_of_ble_eq_true rfl) (by decide) q54_0 (ls' := [vR a0, vI x1, vI x2, vI x3, vI x4, vI (x5 + 0), vI (x6 + 1)]) rfl ?_
      refine a_goto dX8_emptiest_57 (tgt := 21) rfl ?_
      exact h
    · replace h := h.2 c43
      refine a_iconst dX8_emptiest_46 ⟨by decide, by decide⟩ ?_
      refine a_goto dX8_emptiest_47 (tgt := 51) rfl ?_
      obtain ⟨q51_0, h⟩ := h
      refine a_iadd dX8_emptiest_51 q51_0 ?_
      refine a_istore dX8_emptiest_52 (Nat.le_of_ble_eq_true rfl) (ls' := [vR a0, vI x1, vI x2, vI x3, vI x4, vI (x5 + 1), vI x6]) rfl ?_
      obtain ⟨q54_0, h⟩ := h
      refine a_iinc dX8_emptiest_54 rfl (Nat.le_of_ble_eq_true rfl) (by decide) q54_0 (ls' := [vR a0, vI x1, vI x2, vI x3, vI x4, vI (x5 + 1), vI (x6 + 1)]) rfl ?_
      refine a_goto dX8_emptiest_57 (tgt := 21) rfl ?_
      exact h


theorem dX8_load_0 : decode cX8_load 0 = .ok (.aload_n 0, 1) := by decide +kernel
theorem dX8_load_1 : decode cX8_load 1 = .ok (.iconst 0, 1) := by decide +kernel
theorem dX8_load_2 : decode cX8_load 2 = .ok (.putfield 55, 3) := by decide +kernel
theorem dX8_load_5 : decode cX8_load 5 = .ok (.aload_n 0, 1) := by decide +kernel
theorem dX8_load_6 : decode cX8_load 6 = .ok (.iconst 0, 1) := by decide +kernel
theorem dX8_load_7 : decode cX8_load 7 = .ok (.putfield 85, 3) := by decide +kernel
theorem dX8_load_10 : decode cX8_load 10 = .ok (.aload_n 0, 1) := by decide +kernel
theorem dX8_load_11 : decode cX8_load 11 = .ok (.iconst 0, 1) := by decide +kernel
theorem dX8_load_12 : decode cX8_load 12 = .ok (.putfield 94, 3) := by decide +kernel
theorem dX8_load_15 : decode cX8_load 15 = .ok (.aload_n 0, 1) := by decide +kernel
theorem dX8_load_16 : decode cX8_load 16 = .ok (.invokevirtual 121, 3) := by decide +kernel
theorem dX8_load_19 : decode cX8_load 19 = .ok (.aload_n 0, 1) := by decide +kernel
theorem dX8_load_20 : decode cX8_load 20 = .ok (.ldc 179, 2) := by decide +kernel
theorem dX8_load_22 : decode cX8_load 22 = .ok (.invokevirtual 126, 3) := by decide +kernel
theorem dX8_load_25 : decode cX8_load 25 = .ok (.ifCond .ne 12, 3) := by decide +kernel
theorem dX8_load_28 : decode cX8_load 28 = .ok (.aload_n 0, 1) := by decide +kernel
theorem dX8_load_29 : decode cX8_load 29 = .ok (.iconst 1, 1) := by decide +kernel
theorem dX8_load_30 : decode cX8_load 30 = .ok (.aload_n 0, 1) := by decide +kernel
theorem dX8_load_31 : decode cX8_load 31 = .ok (.getfield 91, 3) := by decide +kernel
theorem dX8_load_34 : decode cX8_load 34 = .ok (.invokevirtual 111, 3) := by decide +kernel
theorem dX8_load_37 : decode cX8_load 37 = .ok (.aload_n 0, 1) := by decide +kernel
theorem dX8_load_38 : decode cX8_load 38 = .ok (.getfield 13, 3) := by decide +kernel
theorem dX8_load_41 : decode cX8_load 41 = .ok (.aload_n 0, 1) := by decide +kernel
theorem dX8_load_42 : decode cX8_load 42 = .ok (.iconst 1, 1) := by decide +kernel
theorem dX8_load_43 : decode cX8_load 43 = .ok (.iconst 3, 1) := by decide +kernel
theorem dX8_load_44 : decode cX8_load 44 = .ok (.invokevirtual 152, 3) := by decide +kernel
theorem dX8_load_47 : decode cX8_load 47 = .ok (.invokestatic 51, 3) := by decide +kernel
theorem dX8_load_50 : decode cX8_load 50 = .ok (.aload_n 0, 1) := by decide +kernel
theorem dX8_load_51 : decode cX8_load 51 = .ok (.invokevirtual 181, 3) := by decide +kernel
theorem dX8_load_54 : decode cX8_load 54 = .ok (.ifCond .eq 10, 3) := by decide +kernel
theorem dX8_load_57 : decode cX8_load 57 = .ok (.aload_n 0, 1) := by decide +kernel
theorem dX8_load_58 : decode cX8_load 58 = .ok (.invokevirtual 185, 3) := by decide +kernel
theorem dX8_load_61 : decode cX8_load 61 = .ok (.goto (-11), 3) := by decide +kernel
theorem dX8_load_64 : decode cX8_load 64 = .ok (.aload_n 0, 1) := by decide +kernel
theorem dX8_load_65 : decode cX8_load 65 = .ok (.iconst 0, 1) := by decide +kernel
theorem dX8_load_66 : decode cX8_load 66 = .ok (.putfield 82, 3) := by decide +kernel
theorem dX8_load_69 : decode cX8_load 69 = .ok (.aload_n 0, 1) := by decide +kernel
theorem dX8_load_70 : decode cX8_load 70 = .ok (.aload_n 0, 1) := by decide +kernel
theorem dX8_load_71 : decode cX8_load 71 = .ok (.getfield 94, 3) := by decide +kernel
theorem dX8_load_74 : decode cX8_load 74 = .ok (.putfield 188, 3) := by decide +kernel
theorem dX8_load_77 : decode cX8_load 77 = .ok (.aload_n 0, 1) := by decide +kernel
theorem dX8_load_78 : decode cX8_load 78 = .ok (.getfield 94, 3) := by decide +kernel
theorem dX8_load_81 : decode cX8_load 81 = .ok (.ifCond .eq 11, 3) := by decide +kernel
theorem dX8_load_84 : decode cX8_load 84 = .ok (.bipush (-100), 2) := by decide +kernel
theorem dX8_load_86 : decode cX8_load 86 = .ok (.aload_n 0, 1) := by decide +kernel
theorem dX8_load_87 : decode cX8_load 87 = .ok (.getfield 97, 3) := by decide +kernel
theorem dX8_load_90 : decode cX8_load 90 = .ok (.isub, 1) := by decide +kernel
theorem dX8_load_91 : decode cX8_load 91 = .ok (.ireturn, 1) := by decide +kernel
theorem dX8_load_92 : decode cX8_load 92 = .ok (.aload_n 0, 1) := by decide +kernel
theorem dX8_load_93 : decode cX8_load 93 = .ok (.getfield 13, 3) := by decide +kernel
theorem dX8_load_96 : decode cX8_load 96 = .ok (.invokestatic 191, 3) := by decide +kernel
theorem dX8_load_99 : decode cX8_load 99 = .ok (.aload_n 0, 1) := by decide +kernel
theorem dX8_load_100 : decode cX8_load 100 = .ok (.getfield 13, 3) := by decide +kernel
theorem dX8_load_103 : decode cX8_load 103 = .ok (.iconst 0, 1) := by decide +kernel
theorem dX8_load_104 : decode cX8_load 104 = .ok (.aload_n 0, 1) := by decide +kernel
theorem dX8_load_105 : decode cX8_load 105 = .ok (.getfield 9, 3) := by decide +kernel
theorem dX8_load_108 : decode cX8_load 108 = .ok (.iconst 0, 1) := by decide +kernel
theorem dX8_load_109 : decode cX8_load 109 = .ok (.invokestatic 195, 3) := by decide +kernel
theorem dX8_load_112 : decode cX8_load 112 = .ok (.aload_n 0, 1) := by decide +kernel
theorem dX8_load_113 : decode cX8_load 113 = .ok (.iconst 0, 1) := by decide +kernel
theorem dX8_load_114 : decode cX8_load 114 = .ok (.putfield 63, 3) := by decide +kernel
theorem dX8_load_117 : decode cX8_load 117 = .ok (.aload_n 0, 1) := by decide +kernel
theorem dX8_load_118 : decode cX8_load 118 = .ok (.getfield 9, 3) := by decide +kernel
theorem dX8_load_121 : decode cX8_load 121 = .ok (.bipush 6, 2) := by decide +kernel
theorem dX8_load_123 : decode cX8_load 123 = .ok (.iaload, 1) := by decide +kernel
theorem dX8_load_124 : decode cX8_load 124 = .ok (.ireturn, 1) := by decide +kernel
set_option maxRecDepth 20000 in
theorem s_X8_load_0 {l : Launch} {G : GT} {d : Nat} {Q : AV → AH → Prop} {H : AH} {a0 : Int} (hT : gT G) (h_r0 : Lay LMod H a0) (h : ∀ H1 : AH, H1 = hs H a0 5 0 → ∀ H2 : AH, H2 = hs H1 a0 8 0 → ∀ H3 : AH, H3 = hs H2 a0 10 0 → CL l G mX8_reads d 0 0 [vR a0] H3 (fun r9 H4 => Lay LMod H4 a0 ∧ r9 = vV ∧ ∃ w20 : Bool, mWd H4 a0 ws_runways w20 ∧ (w20 = true → CL l G mX8_number d 0 0 [vR a0, vI 1, vI 3] H4 (fun r9 H5 => Lay LMod H5 a0 ∧ ∃ y5 : Int, r9 = vI y5 ∧ CL l G mX8_begins d 0 0 [vR (a0 + 2), vI y5] H5 (fun r9 H6 => Lay LMod H6 a0 ∧ r9 = vV ∧ AW l G mX8_load (d + 1) 0 0 Q 50 [vR a0] [] 0 0 H6))) ∧ (¬ (w20 = true) → CL l G mX8_fails d 0 0 [vR a0, vI 1, vI (hg H4 a0 9)] H4 (fun r9 H5 => Lay LMod H5 a0 ∧ r9 = vV ∧ CL l G mX8_number d 0 0 [vR a0, vI 1, vI 3] H5 (fun r9 H6 => Lay LMod H6 a0 ∧ ∃ y6 : Int, r9 = vI y6 ∧ CL l G mX8_begins d 0 0 [vR (a0 + 2), vI y6] H6 (fun r9 H7 => Lay LMod H7 a0 ∧ r9 = vV ∧ AW l G mX8_load (d + 1) 0 0 Q 50 [vR a0] [] 0 0 H7)))))) (hd : 4 ≤ d := by omega) : AW l G mX8_load (d + 1) 0 0 Q 0 [vR a0] [] 0 0 H := by
  refine a_aload_n dX8_load_0 rfl rfl ?_
  refine a_iconst dX8_load_1 ⟨by decide, by decide⟩ ?_
  refine a_putI dX8_load_2 fp_RX8_55 rfl rfl (kMod_0 h_r0) ?_
  have h_r0_1 := Lay.wr h_r0 ok_Mod (nrf_fld 5 (kMod_0 h_r0) (by decide) (by decide)) (i := 5) (x := 0)
  generalize e_H1 : hs H a0 5 0 = H1 at h_r0_1 ⊢
  replace h := h H1 e_H1.symm
  refine a_aload_n dX8_load_5 rfl rfl ?_
  refine a_iconst dX8_load_6 ⟨by decide, by decide⟩ ?_
  refine a_putI dX8_load_7 fp_RX8_85 rfl rfl (kMod_0 h_r0_1) ?_
  have h_r0_2 := Lay.wr h_r0_1 ok_Mod (nrf_fld 8 (kMod_0 h_r0_1) (by decide) (by decide)) (i := 8) (x := 0)
  generalize e_H2 : hs H1 a0 8 0 = H2 at h_r0_2 ⊢
  replace h := h H2 e_H2.symm
  refine a_aload_n dX8_load_10 rfl rfl ?_
  refine a_iconst dX8_load_11 ⟨by decide, by decide⟩ ?_
  refine a_putI dX8_load_12 fp_RX8_94 rfl rfl (kMod_0 h_r0_2) ?_
  have h_r0_3 := Lay.wr h_r0_2 ok_Mod (nrf_fld 10 (kMod_0 h_r0_2) (by decide) (by decide)) (i := 10) (x := 0)
  generalize e_H3 : hs H2 a0 10 0 = H3 at h_r0_3 ⊢
  replace h := h H3 e_H3.symm
  refine a_aload_n dX8_load_15 rfl rfl ?_
  refine a_callV dX8_load_16 cw_X8_load_16 (as := []) rfl rfl (kMod_0 h_r0_3) (Nat.le_refl _) (Nat.le_of_ble_eq_true rfl) (nocov rfl) (Nat.le_of_ble_eq_true rfl) (Nat.le_of_ble_eq_true rfl) (CL.mono h (fun r9 H4 h => ?_))
  obtain ⟨h_r0_4, e9, h⟩ := h
  rw [e9]
  show AW l G mX8_load (d + 1) 0 0 Q 19 [vR a0] [] 0 0 H4
  refine a_aload_n dX8_load_19 rfl rfl ?_
  obtain ⟨w20, qw20, h⟩ := h
  obtain ⟨q9, t9, g9, g8⟩ := hT.2 _ _ _ _ wl_RX8_179
  refine a_ldcX g9 dX8_load_20 ?_
  refine a_callV dX8_load_22 cw_X8_load_22 (as := [vX q9]) rfl rfl (kMod_0 h_r0_4) (Nat.le_refl _) (Nat.le_of_ble_eq_true rfl) (nocov rfl) (Nat.le_of_ble_eq_true rfl) (Nat.le_of_ble_eq_true rfl) (CL.mono (c_isWord h_r0_4 g8 hT.1 (by decide) qw20) (fun r9 H9 h9 => ?_))
  rw [h9.1, h9.2]
  show AW l G mX8_load (d + 1) 0 0 Q 25 [vR a0] [vI (bi (decide (w20 = true)))] 0 0 H4
  refine a_if_ne dX8_load_25 (tgt := 37) rfl (fun c25 => ?_) (fun c25 => ?_)
  · replace h := h.1 (bi_1 c25)
    refine a_aload_n dX8_load_37 rfl rfl ?_
    refine a_getR dX8_load_38 fw_RX8_13 rfl rfl (kMod_0 h_r0_4) (rMod_0_1 h_r0_4) ?_
    refine a_aload_n dX8_load_41 rfl rfl ?_
    refine a_iconst dX8_load_42 ⟨by decide, by decide⟩ ?_
    refine a_iconst dX8_load_43 ⟨by decide, by decide⟩ ?_
    refine a_callV dX8_load_44 cw_X8_load_44 (as := [vI 1, vI 3]) rfl rfl (kMod_0 h_r0_4) (Nat.le_refl _) (Nat.le_of_ble_eq_true rfl) (nocov rfl) (Nat.le_of_ble_eq_true rfl) (Nat.le_of_ble_eq_true rfl) (CL.mono h (fun r9 H5 h => ?_))
    obtain ⟨h_r0_5, y5, e9, h⟩ := h
    rw [e9]
    show AW l G mX8_load (d + 1) 0 0 Q 47 [vR a0] [vI y5, vR (a0 + 2)] 0 0 H5
    refine a_callS dX8_load_47 cw_X8_load_47 (as := [vR (a0 + 2), vI y5]) rfl rfl (Nat.le_refl _) (Nat.le_of_ble_eq_true rfl) (nocov rfl) (Nat.le_of_ble_eq_true rfl) (Nat.le_of_ble_eq_true rfl) (CL.mono h (fun r9 H6 h => ?_))
    obtain ⟨h_r0_6, e9, h⟩ := h
    rw [e9]
    show AW l G mX8_load (d + 1) 0 0 Q 50 [vR a0] [] 0 0 H6
    exact h
  · replace h := h.2 (bi_0 c25)
    refine a_aload_n dX8_load_28 rfl rfl ?_
    refine a_iconst dX8_load_29 ⟨by decide, by decide⟩ ?_
    refine a_aload_n dX8_load_30 rfl rfl ?_
    refine a_getI dX8_load_31 fw_RX8_91 rfl rfl (kMod_0 h_r0_4) ?_
    refine a_callV dX8_load_34 cw_X8_load_34 (as := [vI 1, vI (hg H4 a0 9)]) rfl rfl (kMod_0 h_r0_4) (Nat.le_refl _) (Nat.le_of_ble_eq_true rfl) (nocov rfl) (Nat.le_of_ble_eq_true rfl) (Nat.le_of_ble_eq_true rfl) (CL.mono h (fun r9 H5 h => ?_))
    obtain ⟨h_r0_5, e9, h⟩ := h
    rw [e9]
    show AW l G mX8_load (d + 1) 0 0 Q 37 [vR a0] [] 0 0 H5
    refine a_aload_n dX8_load_37 rfl rfl ?_
    refine a_getR dX8_load_38 fw_RX8_13 rfl rfl (kMod_0 h_r0_5) (rMod_0_1 h_r0_5) ?_
    refine a_aload_n dX8_load_41 rfl rfl ?_
    refine a_iconst dX8_load_42 ⟨by decide, by decide⟩ ?_
    refine a_iconst dX8_load_43 ⟨by decide, by decide⟩ ?_
    refine a_callV dX8_load_44 cw_X8_load_44 (as := [vI 1, vI 3]) rfl rfl (kMod_0 h_r0_5) (Nat.le_refl _) (Nat.le_of_ble_eq_true rfl) (nocov rfl) (Nat.le_of_ble_eq_true rfl) (Nat.le_of_ble_eq_true rfl) (CL.mono h (fun r9 H6 h => ?_))
    obtain ⟨h_r0_6, y6, e9, h⟩ := h
    rw [e9]
    show AW l G mX8_load (d + 1) 0 0 Q 47 [vR a0] [vI y6, vR (a0 + 2)] 0 0 H6
    refine a_callS dX8_load_47 cw_X8_load_47 (as := [vR (a0 + 2), vI y6]) rfl rfl (Nat.le_refl _) (Nat.le_of_ble_eq_true rfl) (nocov rfl) (Nat.le_of_ble_eq_true rfl) (Nat.le_of_ble_eq_true rfl) (CL.mono h (fun r9 H7 h => ?_))
    obtain ⟨h_r0_7, e9, h⟩ := h
    rw [e9]
    show AW l G mX8_load (d + 1) 0 0 Q 50 [vR a0] [] 0 0 H7
    exact h

set_option maxRecDepth 20000 in
theorem s_X8_load_50 {l : Launch} {G : GT} {d : Nat} {Q : AV → AH → Prop} {H : AH} {a0 : Int} (hT : gT G) (h_r0 : Lay LMod H a0) (h : CL l G mX8_isMore d 0 0 [vR a0] H (fun r9 H1 => Lay LMod H1 a0 ∧ ∃ y1 : Int, r9 = vI y1 ∧ (y1 = 0 → ∀ H2 : AH, H2 = hs H1 a0 7 0 → ∀ H3 : AH, H3 = hs H2 a0 12 (hg H2 a0 10) → ((hg H3 a0 10) = 0 → CL l G mX8_assignsAll d 0 0 [vR (a0 + 2)] H3 (fun r9 H4 => Lay LMod H4 a0 ∧ r9 = vV ∧ CL l G mX8_copies d 0 0 [vR (a0 + 2), vI 0, vR (a0 + 1), vI 0] H4 (fun r9 H5 => Lay LMod H5 a0 ∧ r9 = vV ∧ ∀ H6 : AH, H6 = hs H5 a0 13 0 → Q (vI (rowM H6 a0 6)) H6))) ∧ (¬ (hg H3 a0 10) = 0 → (-2147483648 ≤ (-100) - (hg H3 a0 11) ∧ (-100) - (hg H3 a0 11) ≤ 2147483647) ∧ Q (vI ((-100) - (hg H3 a0 11))) H3)) ∧ (¬ y1 = 0 → CL l G mX8_statement d 0 0 [vR a0] H1 (fun r9 H2 => Lay LMod H2 a0 ∧ r9 = vV ∧ AW l G mX8_load (d + 1) 0 0 Q 50 [vR a0] [] 0 0 H2)))) (hd : 4 ≤ d := by omega) : AW l G mX8_load (d + 1) 0 0 Q 50 [vR a0] [] 0 0 H := by
  refine a_aload_n dX8_load_50 rfl rfl ?_
  refine a_callV dX8_load_51 cw_X8_load_51 (as := []) rfl rfl (kMod_0 h_r0) (Nat.le_refl _) (Nat.le_of_ble_eq_true rfl) (nocov rfl) (Nat.le_of_ble_eq_true rfl) (Nat.le_of_ble_eq_true rfl) (CL.mono h (fun r9 H1 h => ?_))
  obtain ⟨h_r0_1, y1, e9, h⟩ := h
  rw [e9]
  show AW l G mX8_load (d + 1) 0 0 Q 54 [vR a0] [vI y1] 0 0 H1
  refine a_if_eq dX8_load_54 (tgt := 64) rfl (fun c54 => ?_) (fun c54 => ?_)
  · replace h := h.1 c54
    refine a_aload_n dX8_load_64 rfl rfl ?_
    refine a_iconst dX8_load_65 ⟨by decide, by decide⟩ ?_
    refine a_putI dX8_load_66 fp_RX8_82 rfl rfl (kMod_0 h_r0_1) ?_
    have h_r0_2 := Lay.wr h_r0_1 ok_Mod (nrf_fld 7 (kMod_0 h_r0_1) (by decide) (by decide)) (i := 7) (x := 0)
    generalize e_H2 : hs H1 a0 7 0 = H2 at h_r0_2 ⊢
    replace h := h H2 e_H2.symm
    refine a_aload_n dX8_load_69 rfl rfl ?_
    refine a_aload_n dX8_load_70 rfl rfl ?_
    refine a_getI dX8_load_71 fw_RX8_94 rfl rfl (kMod_0 h_r0_2) ?_
    refine a_putI dX8_load_74 fp_RX8_188 rfl rfl (kMod_0 h_r0_2) ?_
    have h_r0_3 := Lay.wr h_r0_2 ok_Mod (nrf_fld 12 (kMod_0 h_r0_2) (by decide) (by decide)) (i := 12) (x := (hg H2 a0 10))
    generalize e_H3 : hs H2 a0 12 (hg H2 a0 10) = H3 at h_r0_3 ⊢
    replace h := h H3 e_H3.symm
    refine a_aload_n dX8_load_77 rfl rfl ?_
    refine a_getI dX8_load_78 fw_RX8_94 rfl rfl (kMod_0 h_r0_3) ?_
    refine a_if_eq dX8_load_81 (tgt := 92) rfl (fun c81 => ?_) (fun c81 => ?_)
    · replace h := h.1 c81
      refine a_aload_n dX8_load_92 rfl rfl ?_
      refine a_getR dX8_load_93 fw_RX8_13 rfl rfl (kMod_0 h_r0_3) (rMod_0_1 h_r0_3) ?_
      refine a_callS dX8_load_96 cw_X8_load_96 (as := [vR (a0 + 2)]) rfl rfl (Nat.le_refl _) (Nat.le_of_ble_eq_true rfl) (nocov rfl) (Nat.le_of_ble_eq_true rfl) (Nat.le_of_ble_eq_true rfl) (CL.mono h (fun r9 H4 h => ?_))
      obtain ⟨h_r0_4, e9, h⟩ := h
      rw [e9]
      show AW l G mX8_load (d + 1) 0 0 Q 99 [vR a0] [] 0 0 H4
      refine a_aload_n dX8_load_99 rfl rfl ?_
      refine a_getR dX8_load_100 fw_RX8_13 rfl rfl (kMod_0 h_r0_4) (rMod_0_1 h_r0_4) ?_
      refine a_iconst dX8_load_103 ⟨by decide, by decide⟩ ?_
      refine a_aload_n dX8_load_104 rfl rfl ?_
      refine a_getR dX8_load_105 fw_RX8_9 rfl rfl (kMod_0 h_r0_4) (rMod_0_0 h_r0_4) ?_
      refine a_iconst dX8_load_108 ⟨by decide, by decide⟩ ?_
      refine a_callS dX8_load_109 cw_X8_load_109 (as := [vR (a0 + 2), vI 0, vR (a0 + 1), vI 0]) rfl rfl (Nat.le_refl _) (Nat.le_of_ble_eq_true rfl) (nocov rfl) (Nat.le_of_ble_eq_true rfl) (Nat.le_of_ble_eq_true rfl) (CL.mono h (fun r9 H5 h => ?_))
      obtain ⟨h_r0_5, e9, h⟩ := h
      rw [e9]
      show AW l G mX8_load (d + 1) 0 0 Q 112 [vR a0] [] 0 0 H5
      refine a_aload_n dX8_load_112 rfl rfl ?_
      refine a_iconst dX8_load_113 ⟨by decide, by decide⟩ ?_
      refine a_putZ dX8_load_114 fp_RX8_63 rfl rfl (kMod_0 h_r0_5) (by decide) ?_
      have h_r0_6 := Lay.wr h_r0_5 ok_Mod (nrf_fld 13 (kMod_0 h_r0_5) (by decide) (by decide)) (i := 13) (x := 0)
      generalize e_H6 : hs H5 a0 13 0 = H6 at h_r0_6 ⊢
      replace h := h H6 e_H6.symm
      refine a_aload_n dX8_load_117 rfl rfl ?_
      refine a_getR dX8_load_118 fw_RX8_9 rfl rfl (kMod_0 h_r0_6) (rMod_0_0 h_r0_6) ?_
      refine a_bipush dX8_load_121 (by decide) ?_
      refine b_iald dX8_load_123 (kMod_1 h_r0_6) (nMod_1 h_r0_6) (⟨by decide, by decide⟩) ?_
      exact a_iret dX8_load_124 rfl (Nat.le_of_ble_eq_true rfl) (Nat.le_of_ble_eq_true rfl) h
    · replace h := h.2 c81
      refine a_bipush dX8_load_84 (by decide) ?_
      refine a_aload_n dX8_load_86 rfl rfl ?_
      refine a_getI dX8_load_87 fw_RX8_97 rfl rfl (kMod_0 h_r0_3) ?_
      obtain ⟨q90_0, h⟩ := h
      refine a_isub dX8_load_90 q90_0 ?_
      exact a_iret dX8_load_91 rfl (Nat.le_of_ble_eq_true rfl) (Nat.le_of_ble_eq_true rfl) h
  · replace h := h.2 c54
    refine a_aload_n dX8_load_57 rfl rfl ?_
    refine a_callV dX8_load_58 cw_X8_load_58 (as := []) rfl rfl (kMod_0 h_r0_1) (Nat.le_refl _) (Nat.le_of_ble_eq_true rfl) (nocov rfl) (Nat.le_of_ble_eq_true rfl) (Nat.le_of_ble_eq_true rfl) (CL.mono h (fun r9 H2 h => ?_))
    obtain ⟨h_r0_2, e9, h⟩ := h
    rw [e9]
    show AW l G mX8_load (d + 1) 0 0 Q 61 [vR a0] [] 0 0 H2
    refine a_goto dX8_load_61 (tgt := 50) rfl ?_
    exact h


theorem dX8_find_0 : decode cX8_find 0 = .ok (.aload_n 0, 1) := by decide +kernel
theorem dX8_find_1 : decode cX8_find 1 = .ok (.iconst 0, 1) := by decide +kernel
theorem dX8_find_2 : decode cX8_find 2 = .ok (.putfield 55, 3) := by decide +kernel
theorem dX8_find_5 : decode cX8_find 5 = .ok (.aload_n 0, 1) := by decide +kernel
theorem dX8_find_6 : decode cX8_find 6 = .ok (.iconst 0, 1) := by decide +kernel
theorem dX8_find_7 : decode cX8_find 7 = .ok (.putfield 85, 3) := by decide +kernel
theorem dX8_find_10 : decode cX8_find 10 = .ok (.aload_n 0, 1) := by decide +kernel
theorem dX8_find_11 : decode cX8_find 11 = .ok (.iconst 0, 1) := by decide +kernel
theorem dX8_find_12 : decode cX8_find 12 = .ok (.putfield 91, 3) := by decide +kernel
theorem dX8_find_15 : decode cX8_find 15 = .ok (.aload_n 0, 1) := by decide +kernel
theorem dX8_find_16 : decode cX8_find 16 = .ok (.invokevirtual 87, 3) := by decide +kernel
theorem dX8_find_19 : decode cX8_find 19 = .ok (.bipush 97, 2) := by decide +kernel
theorem dX8_find_21 : decode cX8_find 21 = .ok (.bipush 122, 2) := by decide +kernel
theorem dX8_find_23 : decode cX8_find 23 = .ok (.invokestatic 67, 3) := by decide +kernel
theorem dX8_find_26 : decode cX8_find 26 = .ok (.ifCond .eq 16, 3) := by decide +kernel
theorem dX8_find_29 : decode cX8_find 29 = .ok (.aload_n 0, 1) := by decide +kernel
theorem dX8_find_30 : decode cX8_find 30 = .ok (.dup, 1) := by decide +kernel
theorem dX8_find_31 : decode cX8_find 31 = .ok (.getfield 85, 3) := by decide +kernel
theorem dX8_find_34 : decode cX8_find 34 = .ok (.iconst 1, 1) := by decide +kernel
theorem dX8_find_35 : decode cX8_find 35 = .ok (.iadd, 1) := by decide +kernel
theorem dX8_find_36 : decode cX8_find 36 = .ok (.putfield 85, 3) := by decide +kernel
theorem dX8_find_39 : decode cX8_find 39 = .ok (.goto (-24), 3) := by decide +kernel
theorem dX8_find_42 : decode cX8_find 42 = .ok (.aload_n 0, 1) := by decide +kernel
theorem dX8_find_43 : decode cX8_find 43 = .ok (.getfield 85, 3) := by decide +kernel
theorem dX8_find_46 : decode cX8_find 46 = .ok (.aload_n 0, 1) := by decide +kernel
theorem dX8_find_47 : decode cX8_find 47 = .ok (.getfield 82, 3) := by decide +kernel
theorem dX8_find_50 : decode cX8_find 50 = .ok (.if_icmp .ne 27, 3) := by decide +kernel
theorem dX8_find_53 : decode cX8_find 53 = .ok (.aload_n 0, 1) := by decide +kernel
theorem dX8_find_54 : decode cX8_find 54 = .ok (.getfield 82, 3) := by decide +kernel
theorem dX8_find_57 : decode cX8_find 57 = .ok (.iconst 1, 1) := by decide +kernel
theorem dX8_find_58 : decode cX8_find 58 = .ok (.bipush 6, 2) := by decide +kernel
theorem dX8_find_60 : decode cX8_find 60 = .ok (.invokestatic 67, 3) := by decide +kernel
theorem dX8_find_63 : decode cX8_find 63 = .ok (.ifCond .eq 14, 3) := by decide +kernel
theorem dX8_find_66 : decode cX8_find 66 = .ok (.aload_n 0, 1) := by decide +kernel
theorem dX8_find_67 : decode cX8_find 67 = .ok (.aload_n 0, 1) := by decide +kernel
theorem dX8_find_68 : decode cX8_find 68 = .ok (.getfield 9, 3) := by decide +kernel
theorem dX8_find_71 : decode cX8_find 71 = .ok (.invokevirtual 140, 3) := by decide +kernel
theorem dX8_find_74 : decode cX8_find 74 = .ok (.goto 4, 3) := by decide +kernel
theorem dX8_find_77 : decode cX8_find 77 = .ok (.iconst (-1), 1) := by decide +kernel
theorem dX8_find_78 : decode cX8_find 78 = .ok (.istore_n 1, 1) := by decide +kernel
theorem dX8_find_79 : decode cX8_find 79 = .ok (.aload_n 0, 1) := by decide +kernel
theorem dX8_find_80 : decode cX8_find 80 = .ok (.iconst 0, 1) := by decide +kernel
theorem dX8_find_81 : decode cX8_find 81 = .ok (.putfield 82, 3) := by decide +kernel
theorem dX8_find_84 : decode cX8_find 84 = .ok (.iload_n 1, 1) := by decide +kernel
theorem dX8_find_85 : decode cX8_find 85 = .ok (.ireturn, 1) := by decide +kernel
set_option maxRecDepth 20000 in
theorem s_X8_find_0 {l : Launch} {G : GT} {d : Nat} {Q : AV → AH → Prop} {H : AH} {a0 : Int} (h_r0 : Lay LMod H a0) (h : ∀ H1 : AH, H1 = hs H a0 5 0 → ∀ H2 : AH, H2 = hs H1 a0 8 0 → ∀ H3 : AH, H3 = hs H2 a0 9 0 → AW l G mX8_find (d + 1) 0 0 Q 15 [vR a0, vU] [] 0 0 H3) : AW l G mX8_find (d + 1) 0 0 Q 0 [vR a0, vU] [] 0 0 H := by
  refine a_aload_n dX8_find_0 rfl rfl ?_
  refine a_iconst dX8_find_1 ⟨by decide, by decide⟩ ?_
  refine a_putI dX8_find_2 fp_RX8_55 rfl rfl (kMod_0 h_r0) ?_
  have h_r0_1 := Lay.wr h_r0 ok_Mod (nrf_fld 5 (kMod_0 h_r0) (by decide) (by decide)) (i := 5) (x := 0)
  generalize e_H1 : hs H a0 5 0 = H1 at h_r0_1 ⊢
  replace h := h H1 e_H1.symm
  refine a_aload_n dX8_find_5 rfl rfl ?_
  refine a_iconst dX8_find_6 ⟨by decide, by decide⟩ ?_
  refine a_putI dX8_find_7 fp_RX8_85 rfl rfl (kMod_0 h_r0_1) ?_
  have h_r0_2 := Lay.wr h_r0_1 ok_Mod (nrf_fld 8 (kMod_0 h_r0_1) (by decide) (by decide)) (i := 8) (x := 0)
  generalize e_H2 : hs H1 a0 8 0 = H2 at h_r0_2 ⊢
  replace h := h H2 e_H2.symm
  refine a_aload_n dX8_find_10 rfl rfl ?_
  refine a_iconst dX8_find_11 ⟨by decide, by decide⟩ ?_
  refine a_putI dX8_find_12 fp_RX8_91 rfl rfl (kMod_0 h_r0_2) ?_
  have h_r0_3 := Lay.wr h_r0_2 ok_Mod (nrf_fld 9 (kMod_0 h_r0_2) (by decide) (by decide)) (i := 9) (x := 0)
  generalize e_H3 : hs H2 a0 9 0 = H3 at h_r0_3 ⊢
  replace h := h H3 e_H3.symm
  exact h

set_option maxRecDepth 20000 in
theorem s_X8_find_15 {l : Launch} {G : GT} {d : Nat} {Q : AV → AH → Prop} {H : AH} {a0 : Int} (h_r0 : Lay LMod H a0) (h : CL l G mX8_here d 0 0 [vR a0] H (fun r9 H1 => Lay LMod H1 a0 ∧ ∃ y1 : Int, r9 = vI y1 ∧ (¬ (97 ≤ y1 ∧ y1 ≤ 122) → (¬ (hg H1 a0 8) = (hg H1 a0 7) → ∀ H2 : AH, H2 = hs H1 a0 7 0 → Q (vI (-1)) H2) ∧ ((hg H1 a0 8) = (hg H1 a0 7) → (¬ (1 ≤ (hg H1 a0 7) ∧ (hg H1 a0 7) ≤ 6) → ∀ H2 : AH, H2 = hs H1 a0 7 0 → Q (vI (-1)) H2) ∧ (1 ≤ (hg H1 a0 7) ∧ (hg H1 a0 7) ≤ 6 → CL l G mX8_findIn d 0 0 [vR a0, vR (a0 + 1)] H1 (fun r9 H2 => Lay LMod H2 a0 ∧ ∃ y2 : Int, r9 = vI y2 ∧ ∀ H3 : AH, H3 = hs H2 a0 7 0 → Q (vI y2) H3)))) ∧ (97 ≤ y1 ∧ y1 ≤ 122 → (-2147483648 ≤ (hg H1 a0 8) + 1 ∧ (hg H1 a0 8) + 1 ≤ 2147483647) ∧ ∀ H2 : AH, H2 = hs H1 a0 8 ((hg H1 a0 8) + 1) → AW l G mX8_find (d + 1) 0 0 Q 15 [vR a0, vU] [] 0 0 H2))) : AW l G mX8_find (d + 1) 0 0 Q 15 [vR a0, vU] [] 0 0 H := by
  refine a_aload_n dX8_find_15 rfl rfl ?_
  refine a_callV dX8_find_16 cw_X8_find_16 (as := []) rfl rfl (kMod_0 h_r0) (Nat.le_refl _) (Nat.le_of_ble_eq_true rfl) (nocov rfl) (Nat.le_of_ble_eq_true rfl) (Nat.le_of_ble_eq_true rfl) (CL.mono h (fun r9 H1 h => ?_))
  obtain ⟨h_r0_1, y1, e9, h⟩ := h
  rw [e9]
  show AW l G mX8_find (d + 1) 0 0 Q 19 [vR a0, vU] [vI y1] 0 0 H1
  refine a_bipush dX8_find_19 (by decide) ?_
  refine a_bipush dX8_find_21 (by decide) ?_
  refine a_callS dX8_find_23 cw_X8_find_23 (as := [vI y1, vI 97, vI 122]) rfl rfl (Nat.le_refl _) (Nat.le_of_ble_eq_true rfl) (nocov rfl) (Nat.le_of_ble_eq_true rfl) (Nat.le_of_ble_eq_true rfl) (CL.mono (c_in  ) (fun r9 H9 h9 => ?_))
  rw [h9.1, h9.2]
  show AW l G mX8_find (d + 1) 0 0 Q 26 [vR a0, vU] [vI (bi (decide (97 ≤ y1 ∧ y1 ≤ 122)))] 0 0 H1
  refine a_if_eq dX8_find_26 (tgt := 42) rfl (fun c26 => ?_) (fun c26 => ?_)
  · replace h := h.1 (bi_0 c26)
    refine a_aload_n dX8_find_42 rfl rfl ?_
    refine a_getI dX8_find_43 fw_RX8_85 rfl rfl (kMod_0 h_r0_1) ?_
    refine a_aload_n dX8_find_46 rfl rfl ?_
    refine a_getI dX8_find_47 fw_RX8_82 rfl rfl (kMod_0 h_r0_1) ?_
    refine a_icmp_ne dX8_find_50 (tgt := 77) rfl (fun c50 => ?_) (fun c50 => ?_)
    · replace h := h.1 c50
      refine a_iconst dX8_find_77 ⟨by decide, by decide⟩ ?_
      refine a_istore_n dX8_find_78 rfl (Nat.le_of_ble_eq_true rfl) (ls' := [vR a0, vI (-1)]) rfl ?_
      refine a_aload_n dX8_find_79 rfl rfl ?_
      refine a_iconst dX8_find_80 ⟨by decide, by decide⟩ ?_
      refine a_putI dX8_find_81 fp_RX8_82 rfl rfl (kMod_0 h_r0_1) ?_
      have h_r0_2 := Lay.wr h_r0_1 ok_Mod (nrf_fld 7 (kMod_0 h_r0_1) (by decide) (by decide)) (i := 7) (x := 0)
      generalize e_H2 : hs H1 a0 7 0 = H2 at h_r0_2 ⊢
      replace h := h H2 e_H2.symm
      refine a_iload_n dX8_find_84 rfl rfl ?_
      exact a_iret dX8_find_85 rfl (Nat.le_of_ble_eq_true rfl) (Nat.le_of_ble_eq_true rfl) h
    · replace h := h.2 c50
      refine a_aload_n dX8_find_53 rfl rfl ?_
      refine a_getI dX8_find_54 fw_RX8_82 rfl rfl (kMod_0 h_r0_1) ?_
      refine a_iconst dX8_find_57 ⟨by decide, by decide⟩ ?_
      refine a_bipush dX8_find_58 (by decide) ?_
      refine a_callS dX8_find_60 cw_X8_find_60 (as := [vI (hg H1 a0 7), vI 1, vI 6]) rfl rfl (Nat.le_refl _) (Nat.le_of_ble_eq_true rfl) (nocov rfl) (Nat.le_of_ble_eq_true rfl) (Nat.le_of_ble_eq_true rfl) (CL.mono (c_in  ) (fun r9 H9 h9 => ?_))
      rw [h9.1, h9.2]
      show AW l G mX8_find (d + 1) 0 0 Q 63 [vR a0, vU] [vI (bi (decide (1 ≤ (hg H1 a0 7) ∧ (hg H1 a0 7) ≤ 6)))] 0 0 H1
      refine a_if_eq dX8_find_63 (tgt := 77) rfl (fun c63 => ?_) (fun c63 => ?_)
      · replace h := h.1 (bi_0 c63)
        refine a_iconst dX8_find_77 ⟨by decide, by decide⟩ ?_
        refine a_istore_n dX8_find_78 rfl (Nat.le_of_ble_eq_true rfl) (ls' := [vR a0, vI (-1)]) rfl ?_
        refine a_aload_n dX8_find_79 rfl rfl ?_
        refine a_iconst dX8_find_80 ⟨by decide, by decide⟩ ?_
        refine a_putI dX8_find_81 fp_RX8_82 rfl rfl (kMod_0 h_r0_1) ?_
        have h_r0_2 := Lay.wr h_r0_1 ok_Mod (nrf_fld 7 (kMod_0 h_r0_1) (by decide) (by decide)) (i := 7) (x := 0)
        generalize e_H2 : hs H1 a0 7 0 = H2 at h_r0_2 ⊢
        replace h := h H2 e_H2.symm
        refine a_iload_n dX8_find_84 rfl rfl ?_
        exact a_iret dX8_find_85 rfl (Nat.le_of_ble_eq_true rfl) (Nat.le_of_ble_eq_true rfl) h
      · replace h := h.2 (bi_1 c63)
        refine a_aload_n dX8_find_66 rfl rfl ?_
        refine a_aload_n dX8_find_67 rfl rfl ?_
        refine a_getR dX8_find_68 fw_RX8_9 rfl rfl (kMod_0 h_r0_1) (rMod_0_0 h_r0_1) ?_
        refine a_callV dX8_find_71 cw_X8_find_71 (as := [vR (a0 + 1)]) rfl rfl (kMod_0 h_r0_1) (Nat.le_refl _) (Nat.le_of_ble_eq_true rfl) (nocov rfl) (Nat.le_of_ble_eq_true rfl) (Nat.le_of_ble_eq_true rfl) (CL.mono h (fun r9 H2 h => ?_))
        obtain ⟨h_r0_2, y2, e9, h⟩ := h
        rw [e9]
        show AW l G mX8_find (d + 1) 0 0 Q 74 [vR a0, vU] [vI y2] 0 0 H2
        refine a_goto dX8_find_74 (tgt := 78) rfl ?_
        refine a_istore_n dX8_find_78 rfl (Nat.le_of_ble_eq_true rfl) (ls' := [vR a0, vI y2]) rfl ?_
        refine a_aload_n dX8_find_79 rfl rfl ?_
        refine a_iconst dX8_find_80 ⟨by decide, by decide⟩ ?_
        refine a_putI dX8_find_81 fp_RX8_82 rfl rfl (kMod_0 h_r0_2) ?_
        have h_r0_3 := Lay.wr h_r0_2 ok_Mod (nrf_fld 7 (kMod_0 h_r0_2) (by decide) (by decide)) (i := 7) (x := 0)
        generalize e_H3 : hs H2 a0 7 0 = H3 at h_r0_3 ⊢
        replace h := h H3 e_H3.symm
        refine a_iload_n dX8_find_84 rfl rfl ?_
        exact a_iret dX8_find_85 rfl (Nat.le_of_ble_eq_true rfl) (Nat.le_of_ble_eq_true rfl) h
  · replace h := h.2 (bi_1 c26)
    refine a_aload_n dX8_find_29 rfl rfl ?_
    refine a_dup dX8_find_30 rfl ?_
    refine a_getI dX8_find_31 fw_RX8_85 rfl rfl (kMod_0 h_r0_1) ?_
    refine a_iconst dX8_find_34 ⟨by decide, by decide⟩ ?_
    obtain ⟨q35_0, h⟩ := h
    refine a_iadd dX8_find_35 q35_0 ?_
    refine a_putI dX8_find_36 fp_RX8_85 rfl rfl (kMod_0 h_r0_1) ?_
    have h_r0_2 := Lay.wr h_r0_1 ok_Mod (nrf_fld 8 (kMod_0 h_r0_1) (by decide) (by decide)) (i := 8) (x := ((hg H1 a0 8) + 1))
    generalize e_H2 : hs H1 a0 8 ((hg H1 a0 8) + 1) = H2 at h_r0_2 ⊢
    replace h := h H2 e_H2.symm
    refine a_goto dX8_find_39 (tgt := 15) rfl ?_
    exact h


theorem dX8_appendByte_0 : decode cX8_appendByte 0 = .ok (.aload_n 0, 1) := by decide +kernel
theorem dX8_appendByte_1 : decode cX8_appendByte 1 = .ok (.iload_n 1, 1) := by decide +kernel
theorem dX8_appendByte_2 : decode cX8_appendByte 2 = .ok (.iconst 0, 1) := by decide +kernel
theorem dX8_appendByte_3 : decode cX8_appendByte 3 = .ok (.sipush 255, 3) := by decide +kernel
theorem dX8_appendByte_6 : decode cX8_appendByte 6 = .ok (.invokestatic 67, 3) := by decide +kernel
theorem dX8_appendByte_9 : decode cX8_appendByte 9 = .ok (.invokevirtual 78, 3) := by decide +kernel
theorem dX8_appendByte_12 : decode cX8_appendByte 12 = .ok (.ifCond .ne 5, 3) := by decide +kernel
theorem dX8_appendByte_15 : decode cX8_appendByte 15 = .ok (.iconst 0, 1) := by decide +kernel
theorem dX8_appendByte_16 : decode cX8_appendByte 16 = .ok (.ireturn, 1) := by decide +kernel
theorem dX8_appendByte_17 : decode cX8_appendByte 17 = .ok (.aload_n 0, 1) := by decide +kernel
theorem dX8_appendByte_18 : decode cX8_appendByte 18 = .ok (.getfield 82, 3) := by decide +kernel
theorem dX8_appendByte_21 : decode cX8_appendByte 21 = .ok (.sipush 900, 3) := by decide +kernel
theorem dX8_appendByte_24 : decode cX8_appendByte 24 = .ok (.if_icmp .ne 6, 3) := by decide +kernel
theorem dX8_appendByte_27 : decode cX8_appendByte 27 = .ok (.bipush (-2), 2) := by decide +kernel
theorem dX8_appendByte_29 : decode cX8_appendByte 29 = .ok (.ireturn, 1) := by decide +kernel
theorem dX8_appendByte_30 : decode cX8_appendByte 30 = .ok (.aload_n 0, 1) := by decide +kernel
theorem dX8_appendByte_31 : decode cX8_appendByte 31 = .ok (.getfield 26, 3) := by decide +kernel
theorem dX8_appendByte_34 : decode cX8_appendByte 34 = .ok (.aload_n 0, 1) := by decide +kernel
theorem dX8_appendByte_35 : decode cX8_appendByte 35 = .ok (.getfield 82, 3) := by decide +kernel
theorem dX8_appendByte_38 : decode cX8_appendByte 38 = .ok (.iload_n 1, 1) := by decide +kernel
theorem dX8_appendByte_39 : decode cX8_appendByte 39 = .ok (.i2b, 1) := by decide +kernel
theorem dX8_appendByte_40 : decode cX8_appendByte 40 = .ok (.bastore, 1) := by decide +kernel
theorem dX8_appendByte_41 : decode cX8_appendByte 41 = .ok (.aload_n 0, 1) := by decide +kernel
theorem dX8_appendByte_42 : decode cX8_appendByte 42 = .ok (.dup, 1) := by decide +kernel
theorem dX8_appendByte_43 : decode cX8_appendByte 43 = .ok (.getfield 82, 3) := by decide +kernel
theorem dX8_appendByte_46 : decode cX8_appendByte 46 = .ok (.iconst 1, 1) := by decide +kernel
theorem dX8_appendByte_47 : decode cX8_appendByte 47 = .ok (.iadd, 1) := by decide +kernel
theorem dX8_appendByte_48 : decode cX8_appendByte 48 = .ok (.putfield 82, 3) := by decide +kernel
theorem dX8_appendByte_51 : decode cX8_appendByte 51 = .ok (.aload_n 0, 1) := by decide +kernel
theorem dX8_appendByte_52 : decode cX8_appendByte 52 = .ok (.getfield 82, 3) := by decide +kernel
theorem dX8_appendByte_55 : decode cX8_appendByte 55 = .ok (.ireturn, 1) := by decide +kernel
set_option maxRecDepth 20000 in
theorem s_X8_appendByte_0 {l : Launch} {G : GT} {d : Nat} {Q : AV → AH → Prop} {H : AH} {a0 x1 : Int} (h_r0 : Lay LMod H a0) (h : ∀ H1 : AH, H1 = hs H a0 5 (1 - (bi (decide (0 ≤ x1 ∧ x1 ≤ 255)))) → (0 ≤ x1 ∧ x1 ≤ 255 → (¬ (hg H1 a0 7) = 900 → (0 ≤ (hg H1 a0 7) ∧ (hg H1 a0 7) < 900) ∧ (-128 ≤ ((x1 + 128) % 256 - 128) ∧ ((x1 + 128) % 256 - 128) ≤ 127) ∧ ∀ H2 : AH, H2 = hs H1 (a0 + 6) (hg H1 a0 7) ((x1 + 128) % 256 - 128) → (-2147483648 ≤ (hg H2 a0 7) + 1 ∧ (hg H2 a0 7) + 1 ≤ 2147483647) ∧ ∀ H3 : AH, H3 = hs H2 a0 7 ((hg H2 a0 7) + 1) → Q (vI (hg H3 a0 7)) H3) ∧ ((hg H1 a0 7) = 900 → Q (vI (-2)) H1)) ∧ (¬ (0 ≤ x1 ∧ x1 ≤ 255) → Q (vI 0) H1)) : AW l G mX8_appendByte (d + 1) 0 0 Q 0 [vR a0, vI x1] [] 0 0 H := by
  refine a_aload_n dX8_appendByte_0 rfl rfl ?_
  refine a_iload_n dX8_appendByte_1 rfl rfl ?_
  refine a_iconst dX8_appendByte_2 ⟨by decide, by decide⟩ ?_
  refine a_sipush dX8_appendByte_3 (by decide) ?_
  refine a_callS dX8_appendByte_6 cw_X8_appendByte_6 (as := [vI x1, vI 0, vI 255]) rfl rfl (Nat.le_refl _) (Nat.le_of_ble_eq_true rfl) (nocov rfl) (Nat.le_of_ble_eq_true rfl) (Nat.le_of_ble_eq_true rfl) (CL.mono (c_in  ) (fun r9 H9 h9 => ?_))
  rw [h9.1, h9.2]
  show AW l G mX8_appendByte (d + 1) 0 0 Q 9 [vR a0, vI x1] [vI (bi (decide (0 ≤ x1 ∧ x1 ≤ 255))), vR a0] 0 0 H
  refine a_callV dX8_appendByte_9 cw_X8_appendByte_9 (as := [vI (bi (decide (0 ≤ x1 ∧ x1 ≤ 255)))]) rfl rfl (kMod_0 h_r0) (Nat.le_refl _) (Nat.le_of_ble_eq_true rfl) (nocov rfl) (Nat.le_of_ble_eq_true rfl) (Nat.le_of_ble_eq_true rfl) (CL.mono (c_isNumber h_r0 (bi_01 _)) (fun r9 H9 h9 => ?_))
  rw [h9.1, h9.2]
  have h_r0_1 := Lay.wr h_r0 ok_Mod (nrf_fld 5 (kMod_0 h_r0) (by decide) (by decide)) (i := 5) (x := (1 - (bi (decide (0 ≤ x1 ∧ x1 ≤ 255)))))
  generalize e_H1 : hs H a0 5 (1 - (bi (decide (0 ≤ x1 ∧ x1 ≤ 255)))) = H1 at h_r0_1 ⊢
  replace h := h H1 e_H1.symm
  show AW l G mX8_appendByte (d + 1) 0 0 Q 12 [vR a0, vI x1] [vI (bi (decide (0 ≤ x1 ∧ x1 ≤ 255)))] 0 0 H1
  refine a_if_ne dX8_appendByte_12 (tgt := 17) rfl (fun c12 => ?_) (fun c12 => ?_)
  · replace h := h.1 (bi_1 c12)
    refine a_aload_n dX8_appendByte_17 rfl rfl ?_
    refine a_getI dX8_appendByte_18 fw_RX8_82 rfl rfl (kMod_0 h_r0_1) ?_
    refine a_sipush dX8_appendByte_21 (by decide) ?_
    refine a_icmp_ne dX8_appendByte_24 (tgt := 30) rfl (fun c24 => ?_) (fun c24 => ?_)
    · replace h := h.1 c24
      refine a_aload_n dX8_appendByte_30 rfl rfl ?_
      refine a_getR dX8_appendByte_31 fw_RX8_26 rfl rfl (kMod_0 h_r0_1) (rMod_0_6 h_r0_1) ?_
      refine a_aload_n dX8_appendByte_34 rfl rfl ?_
      refine a_getI dX8_appendByte_35 fw_RX8_82 rfl rfl (kMod_0 h_r0_1) ?_
      refine a_iload_n dX8_appendByte_38 rfl rfl ?_
      refine a_i2b dX8_appendByte_39 ?_
      obtain ⟨q40_0, h⟩ := h
      obtain ⟨q40_1, h⟩ := h
      refine b_bast dX8_appendByte_40 (kMod_6 h_r0_1) (nMod_6 h_r0_1) q40_0 q40_1 ?_
      have h_r0_2 := Lay.wr h_r0_1 ok_Mod (nrf_arr (kMod_6 h_r0_1) (by decide) (by decide)) (i := (hg H1 a0 7)) (x := ((x1 + 128) % 256 - 128))
      generalize e_H2 : hs H1 (a0 + 6) (hg H1 a0 7) ((x1 + 128) % 256 - 128) = H2 at h_r0_2 ⊢
      replace h := h H2 e_H2.symm
      refine a_aload_n dX8_appendByte_41 rfl rfl ?_
      refine a_dup dX8_appendByte_42 rfl ?_
      refine a_getI dX8_appendByte_43 fw_RX8_82 rfl rfl (kMod_0 h_r0_2) ?_
      refine a_iconst dX8_appendByte_46 ⟨by decide, by decide⟩ ?_
      obtain ⟨q47_0, h⟩ := h
      refine a_iadd dX8_appendByte_47 q47_0 ?_
      refine a_putI dX8_appendByte_48 fp_RX8_82 rfl rfl (kMod_0 h_r0_2) ?_
      have h_r0_3 := Lay.wr h_r0_2 ok_Mod (nrf_fld 7 (kMod_0 h_r0_2) (by decide) (by decide)) (i := 7) (x := ((hg H2 a0 7) + 1))
      generalize e_H3 : hs H2 a0 7 ((hg H2 a0 7) + 1) = H3 at h_r0_3 ⊢
      replace h := h H3 e_H3.symm
      refine a_aload_n dX8_appendByte_51 rfl rfl ?_
      refine a_getI dX8_appendByte_52 fw_RX8_82 rfl rfl (kMod_0 h_r0_3) ?_
      exact a_iret dX8_appendByte_55 rfl (Nat.le_of_ble_eq_true rfl) (Nat.le_of_ble_eq_true rfl) h
    · replace h := h.2 c24
      refine a_bipush dX8_appendByte_27 (by decide) ?_
      exact a_iret dX8_appendByte_29 rfl (Nat.le_of_ble_eq_true rfl) (Nat.le_of_ble_eq_true rfl) h
  · replace h := h.2 (bi_0 c12)
    refine a_iconst dX8_appendByte_15 ⟨by decide, by decide⟩ ?_
    exact a_iret dX8_appendByte_16 rfl (Nat.le_of_ble_eq_true rfl) (Nat.le_of_ble_eq_true rfl) h


