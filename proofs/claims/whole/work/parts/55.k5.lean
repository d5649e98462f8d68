theorem dX4_setDefaults_0 : decode cX4_setDefaults 0 = .ok (.aload_n 0, 1) := by decide +kernel
theorem dX4_setDefaults_1 : decode cX4_setDefaults 1 = .ok (.iconst 1, 1) := by decide +kernel
theorem dX4_setDefaults_2 : decode cX4_setDefaults 2 = .ok (.putfield 21, 3) := by decide +kernel
theorem dX4_setDefaults_5 : decode cX4_setDefaults 5 = .ok (.aload_n 0, 1) := by decide +kernel
theorem dX4_setDefaults_6 : decode cX4_setDefaults 6 = .ok (.bipush 60, 2) := by decide +kernel
theorem dX4_setDefaults_8 : decode cX4_setDefaults 8 = .ok (.putfield 25, 3) := by decide +kernel
theorem dX4_setDefaults_11 : decode cX4_setDefaults 11 = .ok (.aload_n 0, 1) := by decide +kernel
theorem dX4_setDefaults_12 : decode cX4_setDefaults 12 = .ok (.iconst 2, 1) := by decide +kernel
theorem dX4_setDefaults_13 : decode cX4_setDefaults 13 = .ok (.putfield 28, 3) := by decide +kernel
theorem dX4_setDefaults_16 : decode cX4_setDefaults 16 = .ok (.aload_n 0, 1) := by decide +kernel
theorem dX4_setDefaults_17 : decode cX4_setDefaults 17 = .ok (.bipush 120, 2) := by decide +kernel
theorem dX4_setDefaults_19 : decode cX4_setDefaults 19 = .ok (.putfield 31, 3) := by decide +kernel
theorem dX4_setDefaults_22 : decode cX4_setDefaults 22 = .ok (.aload_n 0, 1) := by decide +kernel
theorem dX4_setDefaults_23 : decode cX4_setDefaults 23 = .ok (.sipush 600, 3) := by decide +kernel
theorem dX4_setDefaults_26 : decode cX4_setDefaults 26 = .ok (.putfield 34, 3) := by decide +kernel
theorem dX4_setDefaults_29 : decode cX4_setDefaults 29 = .ok (.iconst 0, 1) := by decide +kernel
theorem dX4_setDefaults_30 : decode cX4_setDefaults 30 = .ok (.istore_n 1, 1) := by decide +kernel
theorem dX4_setDefaults_31 : decode cX4_setDefaults 31 = .ok (.iload_n 1, 1) := by decide +kernel
theorem dX4_setDefaults_32 : decode cX4_setDefaults 32 = .ok (.bipush 16, 2) := by decide +kernel
theorem dX4_setDefaults_34 : decode cX4_setDefaults 34 = .ok (.if_icmp .ge 17, 3) := by decide +kernel
theorem dX4_setDefaults_37 : decode cX4_setDefaults 37 = .ok (.aload_n 0, 1) := by decide +kernel
theorem dX4_setDefaults_38 : decode cX4_setDefaults 38 = .ok (.getfield 9, 3) := by decide +kernel
theorem dX4_setDefaults_41 : decode cX4_setDefaults 41 = .ok (.iload_n 1, 1) := by decide +kernel
theorem dX4_setDefaults_42 : decode cX4_setDefaults 42 = .ok (.bipush 60, 2) := by decide +kernel
theorem dX4_setDefaults_44 : decode cX4_setDefaults 44 = .ok (.iastore, 1) := by decide +kernel
theorem dX4_setDefaults_45 : decode cX4_setDefaults 45 = .ok (.iinc 1 1, 3) := by decide +kernel
theorem dX4_setDefaults_48 : decode cX4_setDefaults 48 = .ok (.goto (-17), 3) := by decide +kernel
theorem dX4_setDefaults_51 : decode cX4_setDefaults 51 = .ok (.iconst 0, 1) := by decide +kernel
theorem dX4_setDefaults_52 : decode cX4_setDefaults 52 = .ok (.istore_n 1, 1) := by decide +kernel
theorem dX4_setDefaults_53 : decode cX4_setDefaults 53 = .ok (.iload_n 1, 1) := by decide +kernel
theorem dX4_setDefaults_54 : decode cX4_setDefaults 54 = .ok (.iconst 4, 1) := by decide +kernel
theorem dX4_setDefaults_55 : decode cX4_setDefaults 55 = .ok (.if_icmp .ge 27, 3) := by decide +kernel
theorem dX4_setDefaults_58 : decode cX4_setDefaults 58 = .ok (.aload_n 0, 1) := by decide +kernel
theorem dX4_setDefaults_59 : decode cX4_setDefaults 59 = .ok (.getfield 15, 3) := by decide +kernel
theorem dX4_setDefaults_62 : decode cX4_setDefaults 62 = .ok (.iload_n 1, 1) := by decide +kernel
theorem dX4_setDefaults_63 : decode cX4_setDefaults 63 = .ok (.sipush 1000, 3) := by decide +kernel
theorem dX4_setDefaults_66 : decode cX4_setDefaults 66 = .ok (.iastore, 1) := by decide +kernel
theorem dX4_setDefaults_67 : decode cX4_setDefaults 67 = .ok (.aload_n 0, 1) := by decide +kernel
theorem dX4_setDefaults_68 : decode cX4_setDefaults 68 = .ok (.getfield 18, 3) := by decide +kernel
theorem dX4_setDefaults_71 : decode cX4_setDefaults 71 = .ok (.iload_n 1, 1) := by decide +kernel
theorem dX4_setDefaults_72 : decode cX4_setDefaults 72 = .ok (.sipush 2000, 3) := by decide +kernel
theorem dX4_setDefaults_75 : decode cX4_setDefaults 75 = .ok (.iastore, 1) := by decide +kernel
theorem dX4_setDefaults_76 : decode cX4_setDefaults 76 = .ok (.iinc 1 1, 3) := by decide +kernel
theorem dX4_setDefaults_79 : decode cX4_setDefaults 79 = .ok (.goto (-26), 3) := by decide +kernel
theorem dX4_setDefaults_82 : decode cX4_setDefaults 82 = .ok (.return_, 1) := by decide +kernel
set_option maxRecDepth 20000 in
theorem s_X4_setDefaults_0 {l : Launch} {G : GT} {d : Nat} {Q : AV → AH → Prop} {H : AH} {a0 : Int} (h_r0 : Lay LRul H a0) (h : ∀ H1 : AH, H1 = hs H a0 0 1 → ∀ H2 : AH, H2 = hs H1 a0 1 60 → ∀ H3 : AH, H3 = hs H2 a0 2 2 → ∀ H4 : AH, H4 = hs H3 a0 3 120 → ∀ H5 : AH, H5 = hs H4 a0 4 600 → AW l G mX4_setDefaults d 0 0 Q 31 [vR a0, vI 0] [] 0 0 H5) : AW l G mX4_setDefaults d 0 0 Q 0 [vR a0, vU] [] 0 0 H := by
  refine a_aload_n dX4_setDefaults_0 rfl rfl ?_
  refine a_iconst dX4_setDefaults_1 ⟨by decide, by decide⟩ ?_
  refine a_putI dX4_setDefaults_2 fp_RX4_21 rfl rfl (kRul_0 h_r0) ?_
  have h_r0_1 := Lay.wr h_r0 ok_Rul (nrf_fld 0 (kRul_0 h_r0) (by decide) (by decide)) (i := 0) (x := 1)
  generalize e_H1 : hs H a0 0 1 = H1 at h_r0_1 ⊢
  replace h := h H1 e_H1.symm
  refine a_aload_n dX4_setDefaults_5 rfl rfl ?_
  refine a_bipush dX4_setDefaults_6 (by decide) ?_
  refine a_putI dX4_setDefaults_8 fp_RX4_25 rfl rfl (kRul_0 h_r0_1) ?_
  have h_r0_2 := Lay.wr h_r0_1 ok_Rul (nrf_fld 1 (kRul_0 h_r0_1) (by decide) (by decide)) (i := 1) (x := 60)
  generalize e_H2 : hs H1 a0 1 60 = H2 at h_r0_2 ⊢
  replace h := h H2 e_H2.symm
  refine a_aload_n dX4_setDefaults_11 rfl rfl ?_
  refine a_iconst dX4_setDefaults_12 ⟨by decide, by decide⟩ ?_
  refine a_putI dX4_setDefaults_13 fp_RX4_28 rfl rfl (kRul_0 h_r0_2) ?_
  have h_r0_3 := Lay.wr h_r0_2 ok_Rul (nrf_fld 2 (kRul_0 h_r0_2) (by decide) (by decide)) (i := 2) (x := 2)
  generalize e_H3 : hs H2 a0 2 2 = H3 at h_r0_3 ⊢
  replace h := h H3 e_H3.symm
  refine a_aload_n dX4_setDefaults_16 rfl rfl ?_
  refine a_bipush dX4_setDefaults_17 (by decide) ?_
  refine a_putI dX4_setDefaults_19 fp_RX4_31 rfl rfl (kRul_0 h_r0_3) ?_
  have h_r0_4 := Lay.wr h_r0_3 ok_Rul (nrf_fld 3 (kRul_0 h_r0_3) (by decide) (by decide)) (i := 3) (x := 120)
  generalize e_H4 : hs H3 a0 3 120 = H4 at h_r0_4 ⊢
  replace h := h H4 e_H4.symm
  refine a_aload_n dX4_setDefaults_22 rfl rfl ?_
  refine a_sipush dX4_setDefaults_23 (by decide) ?_
  refine a_putI dX4_setDefaults_26 fp_RX4_34 rfl rfl (kRul_0 h_r0_4) ?_
  have h_r0_5 := Lay.wr h_r0_4 ok_Rul (nrf_fld 4 (kRul_0 h_r0_4) (by decide) (by decide)) (i := 4) (x := 600)
  generalize e_H5 : hs H4 a0 4 600 = H5 at h_r0_5 ⊢
  replace h := h H5 e_H5.symm
  refine a_iconst dX4_setDefaults_29 ⟨by decide, by decide⟩ ?_
  refine a_istore_n dX4_setDefaults_30 rfl (Nat.le_of_ble_eq_true rfl) (ls' := [vR a0, vI 0]) rfl ?_
  exact h

set_option maxRecDepth 20000 in
theorem s_X4_setDefaults_31 {l : Launch} {G : GT} {d : Nat} {Q : AV → AH → Prop} {H : AH} {a0 x1 : Int} (h_r0 : Lay LRul H a0) (h : (16 ≤ x1 → AW l G mX4_setDefaults d 0 0 Q 53 [vR a0, vI 0] [] 0 0 H) ∧ (x1 < 16 → (0 ≤ x1 ∧ x1 < 16) ∧ ∀ H1 : AH, H1 = hs H (a0 + 1) x1 60 → (-2147483648 ≤ x1 + 1 ∧ x1 + 1 ≤ 2147483647) ∧ AW l G mX4_setDefaults d 0 0 Q 31 [vR a0, vI (x1 + 1)] [] 0 0 H1)) : AW l G mX4_setDefaults d 0 0 Q 31 [vR a0, vI x1] [] 0 0 H := by
  refine a_iload_n dX4_setDefaults_31 rfl rfl ?_
  refine a_bipush dX4_setDefaults_32 (by decide) ?_
  refine a_icmp_ge dX4_setDefaults_34 (tgt := 51) rfl (fun c34 => ?_) (fun c34 => ?_)
  · replace h := h.1 c34
    refine a_iconst dX4_setDefaults_51 ⟨by decide, by decide⟩ ?_
    refine a_istore_n dX4_setDefaults_52 rfl (Nat.le_of_ble_eq_true rfl) (ls' := [vR a0, vI 0]) rfl ?_
    exact h
  · replace h := h.2 c34
    refine a_aload_n dX4_setDefaults_37 rfl rfl ?_
    refine a_getR dX4_setDefaults_38 fw_RX4_9 rfl rfl (kRul_0 h_r0) (rRul_0_5 h_r0) ?_
    refine a_iload_n dX4_setDefaults_41 rfl rfl ?_
    refine a_bipush dX4_setDefaults_42 (by decide) ?_
    obtain ⟨q44_0, h⟩ := h
    refine b_iast dX4_setDefaults_44 (kRul_1 h_r0) (nRul_1 h_r0) q44_0 ?_
    have h_r0_1 := Lay.wr h_r0 ok_Rul (nrf_arr (kRul_1 h_r0) (by decide) (by decide)) (i := x1) (x := 60)
    generalize e_H1 : hs H (a0 + 1) x1 60 = H1 at h_r0_1 ⊢
    replace h := h H1 e_H1.symm
    obtain ⟨q45_0, h⟩ := h
    refine a_iinc dX4_setDefaults_45 rfl (Nat.le_of_ble_eq_true rfl) (by decide) q45_0 (ls' := [vR a0, vI (x1 + 1)]) rfl ?_
    refine a_goto dX4_setDefaults_48 (tgt := 31) rfl ?_
    exact h

set_option maxRecDepth 20000 in
theorem s_X4_setDefaults_53 {l : Launch} {G : GT} {d : Nat} {Q : AV → AH → Prop} {H : AH} {a0 x1 : Int} (h_r0 : Lay LRul H a0) (h : (4 ≤ x1 → Q vV H) ∧ (x1 < 4 → (0 ≤ x1 ∧ x1 < 4) ∧ ∀ H1 : AH, H1 = hs H (a0 + 2) x1 1000 → ∀ H2 : AH, H2 = hs H1 (a0 + 3) x1 2000 → (-2147483648 ≤ x1 + 1 ∧ x1 + 1 ≤ 2147483647) ∧ AW l G mX4_setDefaults d 0 0 Q 53 [vR a0, vI (x1 + 1)] [] 0 0 H2)) : AW l G mX4_setDefaults d 0 0 Q 53 [vR a0, vI x1] [] 0 0 H := by
  refine a_iload_n dX4_setDefaults_53 rfl rfl ?_
  refine a_iconst dX4_setDefaults_54 ⟨by decide, by decide⟩ ?_
  refine a_icmp_ge dX4_setDefaults_55 (tgt := 82) rfl (fun c55 => ?_) (fun c55 => ?_)
  · replace h := h.1 c55
    exact a_vret dX4_setDefaults_82 rfl (Nat.le_of_ble_eq_true rfl) (Nat.le_of_ble_eq_true rfl) h
  · replace h := h.2 c55
    refine a_aload_n dX4_setDefaults_58 rfl rfl ?_
    refine a_getR dX4_setDefaults_59 fw_RX4_15 rfl rfl (kRul_0 h_r0) (rRul_0_6 h_r0) ?_
    refine a_iload_n dX4_setDefaults_62 rfl rfl ?_
    refine a_sipush dX4_setDefaults_63 (by decide) ?_
    obtain ⟨q66_0, h⟩ := h
    refine b_iast dX4_setDefaults_66 (kRul_2 h_r0) (nRul_2 h_r0) q66_0 ?_
    have h_r0_1 := Lay.wr h_r0 ok_Rul (nrf_arr (kRul_2 h_r0) (by decide) (by decide)) (i := x1) (x := 1000)
    generalize e_H1 : hs H (a0 + 2) x1 1000 = H1 at h_r0_1 ⊢
    replace h := h H1 e_H1.symm
    refine a_aload_n dX4_setDefaults_67 rfl rfl ?_
    refine a_getR dX4_setDefaults_68 fw_RX4_18 rfl rfl (kRul_0 h_r0_1) (rRul_0_7 h_r0_1) ?_
    refine a_iload_n dX4_setDefaults_71 rfl rfl ?_
    refine a_sipush dX4_setDefaults_72 (by decide) ?_
    refine b_iast dX4_setDefaults_75 (kRul_3 h_r0_1) (nRul_3 h_r0_1) q66_0 ?_
    have h_r0_2 := Lay.wr h_r0_1 ok_Rul (nrf_arr (kRul_3 h_r0_1) (by decide) (by decide)) (i := x1) (x := 2000)
    generalize e_H2 : hs H1 (a0 + 3) x1 2000 = H2 at h_r0_2 ⊢
    replace h := h H2 e_H2.symm
    obtain ⟨q76_0, h⟩ := h
    refine a_iinc dX4_setDefaults_76 rfl (Nat.le_of_ble_eq_true rfl) (by decide) q76_0 (ls' := [vR a0, vI (x1 + 1)]) rfl ?_
    refine a_goto dX4_setDefaults_79 (tgt := 53) rfl ?_
    exact h


theorem dX4_copyFrom_0 : decode cX4_copyFrom 0 = .ok (.aload_n 0, 1) := by decide +kernel
theorem dX4_copyFrom_1 : decode cX4_copyFrom 1 = .ok (.aload_n 1, 1) := by decide +kernel
theorem dX4_copyFrom_2 : decode cX4_copyFrom 2 = .ok (.getfield 21, 3) := by decide +kernel
theorem dX4_copyFrom_5 : decode cX4_copyFrom 5 = .ok (.putfield 21, 3) := by decide +kernel
theorem dX4_copyFrom_8 : decode cX4_copyFrom 8 = .ok (.aload_n 0, 1) := by decide +kernel
theorem dX4_copyFrom_9 : decode cX4_copyFrom 9 = .ok (.aload_n 1, 1) := by decide +kernel
theorem dX4_copyFrom_10 : decode cX4_copyFrom 10 = .ok (.getfield 25, 3) := by decide +kernel
theorem dX4_copyFrom_13 : decode cX4_copyFrom 13 = .ok (.putfield 25, 3) := by decide +kernel
theorem dX4_copyFrom_16 : decode cX4_copyFrom 16 = .ok (.aload_n 0, 1) := by decide +kernel
theorem dX4_copyFrom_17 : decode cX4_copyFrom 17 = .ok (.aload_n 1, 1) := by decide +kernel
theorem dX4_copyFrom_18 : decode cX4_copyFrom 18 = .ok (.getfield 28, 3) := by decide +kernel
theorem dX4_copyFrom_21 : decode cX4_copyFrom 21 = .ok (.putfield 28, 3) := by decide +kernel
theorem dX4_copyFrom_24 : decode cX4_copyFrom 24 = .ok (.aload_n 0, 1) := by decide +kernel
theorem dX4_copyFrom_25 : decode cX4_copyFrom 25 = .ok (.aload_n 1, 1) := by decide +kernel
theorem dX4_copyFrom_26 : decode cX4_copyFrom 26 = .ok (.getfield 31, 3) := by decide +kernel
theorem dX4_copyFrom_29 : decode cX4_copyFrom 29 = .ok (.putfield 31, 3) := by decide +kernel
theorem dX4_copyFrom_32 : decode cX4_copyFrom 32 = .ok (.aload_n 0, 1) := by decide +kernel
theorem dX4_copyFrom_33 : decode cX4_copyFrom 33 = .ok (.aload_n 1, 1) := by decide +kernel
theorem dX4_copyFrom_34 : decode cX4_copyFrom 34 = .ok (.getfield 34, 3) := by decide +kernel
theorem dX4_copyFrom_37 : decode cX4_copyFrom 37 = .ok (.putfield 34, 3) := by decide +kernel
theorem dX4_copyFrom_40 : decode cX4_copyFrom 40 = .ok (.aload_n 1, 1) := by decide +kernel
theorem dX4_copyFrom_41 : decode cX4_copyFrom 41 = .ok (.getfield 9, 3) := by decide +kernel
theorem dX4_copyFrom_44 : decode cX4_copyFrom 44 = .ok (.iconst 0, 1) := by decide +kernel
theorem dX4_copyFrom_45 : decode cX4_copyFrom 45 = .ok (.aload_n 0, 1) := by decide +kernel
theorem dX4_copyFrom_46 : decode cX4_copyFrom 46 = .ok (.getfield 9, 3) := by decide +kernel
theorem dX4_copyFrom_49 : decode cX4_copyFrom 49 = .ok (.iconst 0, 1) := by decide +kernel
theorem dX4_copyFrom_50 : decode cX4_copyFrom 50 = .ok (.bipush 16, 2) := by decide +kernel
theorem dX4_copyFrom_52 : decode cX4_copyFrom 52 = .ok (.invokestatic 37, 3) := by decide +kernel
theorem dX4_copyFrom_55 : decode cX4_copyFrom 55 = .ok (.aload_n 1, 1) := by decide +kernel
theorem dX4_copyFrom_56 : decode cX4_copyFrom 56 = .ok (.getfield 15, 3) := by decide +kernel
theorem dX4_copyFrom_59 : decode cX4_copyFrom 59 = .ok (.iconst 0, 1) := by decide +kernel
theorem dX4_copyFrom_60 : decode cX4_copyFrom 60 = .ok (.aload_n 0, 1) := by decide +kernel
theorem dX4_copyFrom_61 : decode cX4_copyFrom 61 = .ok (.getfield 15, 3) := by decide +kernel
theorem dX4_copyFrom_64 : decode cX4_copyFrom 64 = .ok (.iconst 0, 1) := by decide +kernel
theorem dX4_copyFrom_65 : decode cX4_copyFrom 65 = .ok (.iconst 4, 1) := by decide +kernel
theorem dX4_copyFrom_66 : decode cX4_copyFrom 66 = .ok (.invokestatic 37, 3) := by decide +kernel
theorem dX4_copyFrom_69 : decode cX4_copyFrom 69 = .ok (.aload_n 1, 1) := by decide +kernel
theorem dX4_copyFrom_70 : decode cX4_copyFrom 70 = .ok (.getfield 18, 3) := by decide +kernel
theorem dX4_copyFrom_73 : decode cX4_copyFrom 73 = .ok (.iconst 0, 1) := by decide +kernel
theorem dX4_copyFrom_74 : decode cX4_copyFrom 74 = .ok (.aload_n 0, 1) := by decide +kernel
theorem dX4_copyFrom_75 : decode cX4_copyFrom 75 = .ok (.getfield 18, 3) := by decide +kernel
theorem dX4_copyFrom_78 : decode cX4_copyFrom 78 = .ok (.iconst 0, 1) := by decide +kernel
theorem dX4_copyFrom_79 : decode cX4_copyFrom 79 = .ok (.iconst 4, 1) := by decide +kernel
theorem dX4_copyFrom_80 : decode cX4_copyFrom 80 = .ok (.invokestatic 37, 3) := by decide +kernel
theorem dX4_copyFrom_83 : decode cX4_copyFrom 83 = .ok (.return_, 1) := by decide +kernel
set_option maxRecDepth 20000 in
theorem s_X4_copyFrom_0 {l : Launch} {G : GT} {d : Nat} {Q : AV → AH → Prop} {H : AH} {a0 a1 : Int} (h_r0 : Lay LRul H a0) (h_r1 : Lay LRul H a1) (h : ∀ H1 : AH, H1 = hs H a0 0 (hg H a1 0) → ∀ H2 : AH, H2 = hs H1 a0 1 (hg H1 a1 1) → ∀ H3 : AH, H3 = hs H2 a0 2 (hg H2 a1 2) → ∀ H4 : AH, H4 = hs H3 a0 3 (hg H3 a1 3) → ∀ H5 : AH, H5 = hs H4 a0 4 (hg H4 a1 4) → ∀ H6 : AH, only H5 H6 (fun c9 i9 => c9 = (a0 + 1) ∧ 0 ≤ i9 ∧ i9 < 0 + 16) → (∀ k9 : Int, 0 ≤ k9 → k9 < 0 + 16 → hg H6 (a0 + 1) k9 = hg H5 (a1 + 1) (0 + (k9 - 0))) → ∀ H7 : AH, only H6 H7 (fun c9 i9 => c9 = (a0 + 2) ∧ 0 ≤ i9 ∧ i9 < 0 + 4) → (∀ k9 : Int, 0 ≤ k9 → k9 < 0 + 4 → hg H7 (a0 + 2) k9 = hg H6 (a1 + 2) (0 + (k9 - 0))) → ∀ H8 : AH, only H7 H8 (fun c9 i9 => c9 = (a0 + 3) ∧ 0 ≤ i9 ∧ i9 < 0 + 4) → (∀ k9 : Int, 0 ≤ k9 → k9 < 0 + 4 → hg H8 (a0 + 3) k9 = hg H7 (a1 + 3) (0 + (k9 - 0))) → Q vV H8) : AW l G mX4_copyFrom (d + 1) 0 0 Q 0 [vR a0, vR a1] [] 0 0 H := by
  refine a_aload_n dX4_copyFrom_0 rfl rfl ?_
  refine a_aload_n dX4_copyFrom_1 rfl rfl ?_
  refine a_getI dX4_copyFrom_2 fw_RX4_21 rfl rfl (kRul_0 h_r1) ?_
  refine a_putI dX4_copyFrom_5 fp_RX4_21 rfl rfl (kRul_0 h_r0) ?_
  have h_r0_1 := Lay.wr h_r0 ok_Rul (nrf_fld 0 (kRul_0 h_r0) (by decide) (by decide)) (i := 0) (x := (hg H a1 0))
  have h_r1_1 := Lay.wr h_r1 ok_Rul (nrf_fld 0 (kRul_0 h_r0) (by decide) (by decide)) (i := 0) (x := (hg H a1 0))
  generalize e_H1 : hs H a0 0 (hg H a1 0) = H1 at h_r0_1 h_r1_1 ⊢
  replace h := h H1 e_H1.symm
  refine a_aload_n dX4_copyFrom_8 rfl rfl ?_
  refine a_aload_n dX4_copyFrom_9 rfl rfl ?_
  refine a_getI dX4_copyFrom_10 fw_RX4_25 rfl rfl (kRul_0 h_r1_1) ?_
  refine a_putI dX4_copyFrom_13 fp_RX4_25 rfl rfl (kRul_0 h_r0_1) ?_
  have h_r0_2 := Lay.wr h_r0_1 ok_Rul (nrf_fld 1 (kRul_0 h_r0_1) (by decide) (by decide)) (i := 1) (x := (hg H1 a1 1))
  have h_r1_2 := Lay.wr h_r1_1 ok_Rul (nrf_fld 1 (kRul_0 h_r0_1) (by decide) (by decide)) (i := 1) (x := (hg H1 a1 1))
  generalize e_H2 : hs H1 a0 1 (hg H1 a1 1) = H2 at h_r0_2 h_r1_2 ⊢
  replace h := h H2 e_H2.symm
  refine a_aload_n dX4_copyFrom_16 rfl rfl ?_
  refine a_aload_n dX4_copyFrom_17 rfl rfl ?_
  refine a_getI dX4_copyFrom_18 fw_RX4_28 rfl rfl (kRul_0 h_r1_2) ?_
  refine a_putI dX4_copyFrom_21 fp_RX4_28 rfl rfl (kRul_0 h_r0_2) ?_
  have h_r0_3 := Lay.wr h_r0_2 ok_Rul (nrf_fld 2 (kRul_0 h_r0_2) (by decide) (by decide)) (i := 2) (x := (hg H2 a1 2))
  have h_r1_3 := Lay.wr h_r1_2 ok_Rul (nrf_fld 2 (kRul_0 h_r0_2) (by decide) (by decide)) (i := 2) (x := (hg H2 a1 2))
  generalize e_H3 : hs H2 a0 2 (hg H2 a1 2) = H3 at h_r0_3 h_r1_3 ⊢
  replace h := h H3 e_H3.symm
  refine a_aload_n dX4_copyFrom_24 rfl rfl ?_
  refine a_aload_n dX4_copyFrom_25 rfl rfl ?_
  refine a_getI dX4_copyFrom_26 fw_RX4_31 rfl rfl (kRul_0 h_r1_3) ?_
  refine a_putI dX4_copyFrom_29 fp_RX4_31 rfl rfl (kRul_0 h_r0_3) ?_
  have h_r0_4 := Lay.wr h_r0_3 ok_Rul (nrf_fld 3 (kRul_0 h_r0_3) (by decide) (by decide)) (i := 3) (x := (hg H3 a1 3))
  have h_r1_4 := Lay.wr h_r1_3 ok_Rul (nrf_fld 3 (kRul_0 h_r0_3) (by decide) (by decide)) (i := 3) (x := (hg H3 a1 3))
  generalize e_H4 : hs H3 a0 3 (hg H3 a1 3) = H4 at h_r0_4 h_r1_4 ⊢
  replace h := h H4 e_H4.symm
  refine a_aload_n dX4_copyFrom_32 rfl rfl ?_
  refine a_aload_n dX4_copyFrom_33 rfl rfl ?_
  refine a_getI dX4_copyFrom_34 fw_RX4_34 rfl rfl (kRul_0 h_r1_4) ?_
  refine a_putI dX4_copyFrom_37 fp_RX4_34 rfl rfl (kRul_0 h_r0_4) ?_
  have h_r0_5 := Lay.wr h_r0_4 ok_Rul (nrf_fld 4 (kRul_0 h_r0_4) (by decide) (by decide)) (i := 4) (x := (hg H4 a1 4))
  have h_r1_5 := Lay.wr h_r1_4 ok_Rul (nrf_fld 4 (kRul_0 h_r0_4) (by decide) (by decide)) (i := 4) (x := (hg H4 a1 4))
  generalize e_H5 : hs H4 a0 4 (hg H4 a1 4) = H5 at h_r0_5 h_r1_5 ⊢
  replace h := h H5 e_H5.symm
  refine a_aload_n dX4_copyFrom_40 rfl rfl ?_
  refine a_getR dX4_copyFrom_41 fw_RX4_9 rfl rfl (kRul_0 h_r1_5) (rRul_0_5 h_r1_5) ?_
  refine a_iconst dX4_copyFrom_44 ⟨by decide, by decide⟩ ?_
  refine a_aload_n dX4_copyFrom_45 rfl rfl ?_
  refine a_getR dX4_copyFrom_46 fw_RX4_9 rfl rfl (kRul_0 h_r0_5) (rRul_0_5 h_r0_5) ?_
  refine a_iconst dX4_copyFrom_49 ⟨by decide, by decide⟩ ?_
  refine a_bipush dX4_copyFrom_50 (by decide) ?_
  refine a_copyI dX4_copyFrom_52 wac_530 (kRul_1 h_r1_5) (nRul_1 h_r1_5) (kRul_1 h_r0_5) (nRul_1 h_r0_5) (⟨by decide, by decide⟩) (⟨by decide, by decide⟩) (by decide) (Nat.le_of_ble_eq_true rfl) (fun H6 o_H6 v_H6 => ?_)
  replace h := h H6 o_H6 v_H6
  have h_r0_6 := Lay.only h_r0_5 ok_Rul o_H6 (fun c9 i9 q9 => by rw [q9.1]; exact nrf_arr (kRul_1 h_r0_5) (by decide) (by decide))
  have h_r1_6 := Lay.only h_r1_5 ok_Rul o_H6 (fun c9 i9 q9 => by rw [q9.1]; exact nrf_arr (kRul_1 h_r0_5) (by decide) (by decide))
  refine a_aload_n dX4_copyFrom_55 rfl rfl ?_
  refine a_getR dX4_copyFrom_56 fw_RX4_15 rfl rfl (kRul_0 h_r1_6) (rRul_0_6 h_r1_6) ?_
  refine a_iconst dX4_copyFrom_59 ⟨by decide, by decide⟩ ?_
  refine a_aload_n dX4_copyFrom_60 rfl rfl ?_
  refine a_getR dX4_copyFrom_61 fw_RX4_15 rfl rfl (kRul_0 h_r0_6) (rRul_0_6 h_r0_6) ?_
  refine a_iconst dX4_copyFrom_64 ⟨by decide, by decide⟩ ?_
  refine a_iconst dX4_copyFrom_65 ⟨by decide, by decide⟩ ?_
  refine a_copyI dX4_copyFrom_66 wac_530 (kRul_2 h_r1_6) (nRul_2 h_r1_6) (kRul_2 h_r0_6) (nRul_2 h_r0_6) (⟨by decide, by decide⟩) (⟨by decide, by decide⟩) (by decide) (Nat.le_of_ble_eq_true rfl) (fun H7 o_H7 v_H7 => ?_)
  replace h := h H7 o_H7 v_H7
  have h_r0_7 := Lay.only h_r0_6 ok_Rul o_H7 (fun c9 i9 q9 => by rw [q9.1]; exact nrf_arr (kRul_2 h_r0_6) (by decide) (by decide))
  have h_r1_7 := Lay.only h_r1_6 ok_Rul o_H7 (fun c9 i9 q9 => by rw [q9.1]; exact nrf_arr (kRul_2 h_r0_6) (by decide) (by decide))
  refine a_aload_n dX4_copyFrom_69 rfl rfl ?_
  refine a_getR dX4_copyFrom_70 fw_RX4_18 rfl rfl (kRul_0 h_r1_7) (rRul_0_7 h_r1_7) ?_
  refine a_iconst dX4_copyFrom_73 ⟨by decide, by decide⟩ ?_
  refine a_aload_n dX4_copyFrom_74 rfl rfl ?_
  refine a_getR dX4_copyFrom_75 fw_RX4_18 rfl rfl (kRul_0 h_r0_7) (rRul_0_7 h_r0_7) ?_
  refine a_iconst dX4_copyFrom_78 ⟨by decide, by decide⟩ ?_
  refine a_iconst dX4_copyFrom_79 ⟨by decide, by decide⟩ ?_
  refine a_copyI dX4_copyFrom_80 wac_530 (kRul_3 h_r1_7) (nRul_3 h_r1_7) (kRul_3 h_r0_7) (nRul_3 h_r0_7) (⟨by decide, by decide⟩) (⟨by decide, by decide⟩) (by decide) (Nat.le_of_ble_eq_true rfl) (fun H8 o_H8 v_H8 => ?_)
  replace h := h H8 o_H8 v_H8
  have h_r0_8 := Lay.only h_r0_7 ok_Rul o_H8 (fun c9 i9 q9 => by rw [q9.1]; exact nrf_arr (kRul_3 h_r0_7) (by decide) (by decide))
  have h_r1_8 := Lay.only h_r1_7 ok_Rul o_H8 (fun c9 i9 q9 => by rw [q9.1]; exact nrf_arr (kRul_3 h_r0_7) (by decide) (by decide))
  exact a_vret dX4_copyFrom_83 rfl (Nat.le_of_ble_eq_true rfl) (Nat.le_of_ble_eq_true rfl) h


theorem dX0_copyFrom_0 : decode cX0_copyFrom 0 = .ok (.aload_n 0, 1) := by decide +kernel
theorem dX0_copyFrom_1 : decode cX0_copyFrom 1 = .ok (.aload_n 1, 1) := by decide +kernel
theorem dX0_copyFrom_2 : decode cX0_copyFrom 2 = .ok (.getfield 37, 3) := by decide +kernel
theorem dX0_copyFrom_5 : decode cX0_copyFrom 5 = .ok (.putfield 37, 3) := by decide +kernel
theorem dX0_copyFrom_8 : decode cX0_copyFrom 8 = .ok (.aload_n 1, 1) := by decide +kernel
theorem dX0_copyFrom_9 : decode cX0_copyFrom 9 = .ok (.getfield 9, 3) := by decide +kernel
theorem dX0_copyFrom_12 : decode cX0_copyFrom 12 = .ok (.iconst 0, 1) := by decide +kernel
theorem dX0_copyFrom_13 : decode cX0_copyFrom 13 = .ok (.aload_n 0, 1) := by decide +kernel
theorem dX0_copyFrom_14 : decode cX0_copyFrom 14 = .ok (.getfield 9, 3) := by decide +kernel
theorem dX0_copyFrom_17 : decode cX0_copyFrom 17 = .ok (.iconst 0, 1) := by decide +kernel
theorem dX0_copyFrom_18 : decode cX0_copyFrom 18 = .ok (.aload_n 0, 1) := by decide +kernel
theorem dX0_copyFrom_19 : decode cX0_copyFrom 19 = .ok (.getfield 37, 3) := by decide +kernel
theorem dX0_copyFrom_22 : decode cX0_copyFrom 22 = .ok (.bipush 6, 2) := by decide +kernel
theorem dX0_copyFrom_24 : decode cX0_copyFrom 24 = .ok (.imul, 1) := by decide +kernel
theorem dX0_copyFrom_25 : decode cX0_copyFrom 25 = .ok (.invokestatic 41, 3) := by decide +kernel
theorem dX0_copyFrom_28 : decode cX0_copyFrom 28 = .ok (.aload_n 1, 1) := by decide +kernel
theorem dX0_copyFrom_29 : decode cX0_copyFrom 29 = .ok (.getfield 15, 3) := by decide +kernel
theorem dX0_copyFrom_32 : decode cX0_copyFrom 32 = .ok (.iconst 0, 1) := by decide +kernel
theorem dX0_copyFrom_33 : decode cX0_copyFrom 33 = .ok (.aload_n 0, 1) := by decide +kernel
theorem dX0_copyFrom_34 : decode cX0_copyFrom 34 = .ok (.getfield 15, 3) := by decide +kernel
theorem dX0_copyFrom_37 : decode cX0_copyFrom 37 = .ok (.iconst 0, 1) := by decide +kernel
theorem dX0_copyFrom_38 : decode cX0_copyFrom 38 = .ok (.aload_n 0, 1) := by decide +kernel
theorem dX0_copyFrom_39 : decode cX0_copyFrom 39 = .ok (.getfield 37, 3) := by decide +kernel
theorem dX0_copyFrom_42 : decode cX0_copyFrom 42 = .ok (.invokestatic 41, 3) := by decide +kernel
theorem dX0_copyFrom_45 : decode cX0_copyFrom 45 = .ok (.iconst 0, 1) := by decide +kernel
theorem dX0_copyFrom_46 : decode cX0_copyFrom 46 = .ok (.istore_n 2, 1) := by decide +kernel
theorem dX0_copyFrom_47 : decode cX0_copyFrom 47 = .ok (.iload_n 2, 1) := by decide +kernel
theorem dX0_copyFrom_48 : decode cX0_copyFrom 48 = .ok (.aload_n 0, 1) := by decide +kernel
theorem dX0_copyFrom_49 : decode cX0_copyFrom 49 = .ok (.getfield 37, 3) := by decide +kernel
theorem dX0_copyFrom_52 : decode cX0_copyFrom 52 = .ok (.if_icmp .ge 21, 3) := by decide +kernel
theorem dX0_copyFrom_55 : decode cX0_copyFrom 55 = .ok (.aload_n 0, 1) := by decide +kernel
theorem dX0_copyFrom_56 : decode cX0_copyFrom 56 = .ok (.getfield 18, 3) := by decide +kernel
theorem dX0_copyFrom_59 : decode cX0_copyFrom 59 = .ok (.iload_n 2, 1) := by decide +kernel
theorem dX0_copyFrom_60 : decode cX0_copyFrom 60 = .ok (.aload_n 1, 1) := by decide +kernel
theorem dX0_copyFrom_61 : decode cX0_copyFrom 61 = .ok (.getfield 18, 3) := by decide +kernel
theorem dX0_copyFrom_64 : decode cX0_copyFrom 64 = .ok (.iload_n 2, 1) := by decide +kernel
theorem dX0_copyFrom_65 : decode cX0_copyFrom 65 = .ok (.baload, 1) := by decide +kernel
theorem dX0_copyFrom_66 : decode cX0_copyFrom 66 = .ok (.bastore, 1) := by decide +kernel
theorem dX0_copyFrom_67 : decode cX0_copyFrom 67 = .ok (.iinc 2 1, 3) := by decide +kernel
theorem dX0_copyFrom_70 : decode cX0_copyFrom 70 = .ok (.goto (-23), 3) := by decide +kernel
theorem dX0_copyFrom_73 : decode cX0_copyFrom 73 = .ok (.aload_n 1, 1) := by decide +kernel
theorem dX0_copyFrom_74 : decode cX0_copyFrom 74 = .ok (.getfield 22, 3) := by decide +kernel
theorem dX0_copyFrom_77 : decode cX0_copyFrom 77 = .ok (.iconst 0, 1) := by decide +kernel
theorem dX0_copyFrom_78 : decode cX0_copyFrom 78 = .ok (.aload_n 0, 1) := by decide +kernel
theorem dX0_copyFrom_79 : decode cX0_copyFrom 79 = .ok (.getfield 22, 3) := by decide +kernel
theorem dX0_copyFrom_82 : decode cX0_copyFrom 82 = .ok (.iconst 0, 1) := by decide +kernel
theorem dX0_copyFrom_83 : decode cX0_copyFrom 83 = .ok (.aload_n 0, 1) := by decide +kernel
theorem dX0_copyFrom_84 : decode cX0_copyFrom 84 = .ok (.getfield 37, 3) := by decide +kernel
theorem dX0_copyFrom_87 : decode cX0_copyFrom 87 = .ok (.invokestatic 41, 3) := by decide +kernel
theorem dX0_copyFrom_90 : decode cX0_copyFrom 90 = .ok (.aload_n 1, 1) := by decide +kernel
theorem dX0_copyFrom_91 : decode cX0_copyFrom 91 = .ok (.getfield 25, 3) := by decide +kernel
theorem dX0_copyFrom_94 : decode cX0_copyFrom 94 = .ok (.iconst 0, 1) := by decide +kernel
theorem dX0_copyFrom_95 : decode cX0_copyFrom 95 = .ok (.aload_n 0, 1) := by decide +kernel
theorem dX0_copyFrom_96 : decode cX0_copyFrom 96 = .ok (.getfield 25, 3) := by decide +kernel
theorem dX0_copyFrom_99 : decode cX0_copyFrom 99 = .ok (.iconst 0, 1) := by decide +kernel
theorem dX0_copyFrom_100 : decode cX0_copyFrom 100 = .ok (.aload_n 0, 1) := by decide +kernel
theorem dX0_copyFrom_101 : decode cX0_copyFrom 101 = .ok (.getfield 37, 3) := by decide +kernel
theorem dX0_copyFrom_104 : decode cX0_copyFrom 104 = .ok (.invokestatic 41, 3) := by decide +kernel
theorem dX0_copyFrom_107 : decode cX0_copyFrom 107 = .ok (.aload_n 1, 1) := by decide +kernel
theorem dX0_copyFrom_108 : decode cX0_copyFrom 108 = .ok (.getfield 28, 3) := by decide +kernel
theorem dX0_copyFrom_111 : decode cX0_copyFrom 111 = .ok (.iconst 0, 1) := by decide +kernel
theorem dX0_copyFrom_112 : decode cX0_copyFrom 112 = .ok (.aload_n 0, 1) := by decide +kernel
theorem dX0_copyFrom_113 : decode cX0_copyFrom 113 = .ok (.getfield 28, 3) := by decide +kernel
theorem dX0_copyFrom_116 : decode cX0_copyFrom 116 = .ok (.iconst 0, 1) := by decide +kernel
theorem dX0_copyFrom_117 : decode cX0_copyFrom 117 = .ok (.aload_n 0, 1) := by decide +kernel
theorem dX0_copyFrom_118 : decode cX0_copyFrom 118 = .ok (.getfield 37, 3) := by decide +kernel
theorem dX0_copyFrom_121 : decode cX0_copyFrom 121 = .ok (.invokestatic 41, 3) := by decide +kernel
theorem dX0_copyFrom_124 : decode cX0_copyFrom 124 = .ok (.aload_n 1, 1) := by decide +kernel
theorem dX0_copyFrom_125 : decode cX0_copyFrom 125 = .ok (.getfield 31, 3) := by decide +kernel
theorem dX0_copyFrom_128 : decode cX0_copyFrom 128 = .ok (.iconst 0, 1) := by decide +kernel
theorem dX0_copyFrom_129 : decode cX0_copyFrom 129 = .ok (.aload_n 0, 1) := by decide +kernel
theorem dX0_copyFrom_130 : decode cX0_copyFrom 130 = .ok (.getfield 31, 3) := by decide +kernel
theorem dX0_copyFrom_133 : decode cX0_copyFrom 133 = .ok (.iconst 0, 1) := by decide +kernel
theorem dX0_copyFrom_134 : decode cX0_copyFrom 134 = .ok (.aload_n 0, 1) := by decide +kernel
theorem dX0_copyFrom_135 : decode cX0_copyFrom 135 = .ok (.getfield 37, 3) := by decide +kernel
theorem dX0_copyFrom_138 : decode cX0_copyFrom 138 = .ok (.invokestatic 41, 3) := by decide +kernel
theorem dX0_copyFrom_141 : decode cX0_copyFrom 141 = .ok (.aload_n 1, 1) := by decide +kernel
theorem dX0_copyFrom_142 : decode cX0_copyFrom 142 = .ok (.getfield 34, 3) := by decide +kernel
theorem dX0_copyFrom_145 : decode cX0_copyFrom 145 = .ok (.iconst 0, 1) := by decide +kernel
theorem dX0_copyFrom_146 : decode cX0_copyFrom 146 = .ok (.aload_n 0, 1) := by decide +kernel
theorem dX0_copyFrom_147 : decode cX0_copyFrom 147 = .ok (.getfield 34, 3) := by decide +kernel
theorem dX0_copyFrom_150 : decode cX0_copyFrom 150 = .ok (.iconst 0, 1) := by decide +kernel
theorem dX0_copyFrom_151 : decode cX0_copyFrom 151 = .ok (.aload_n 0, 1) := by decide +kernel
theorem dX0_copyFrom_152 : decode cX0_copyFrom 152 = .ok (.getfield 37, 3) := by decide +kernel
theorem dX0_copyFrom_155 : decode cX0_copyFrom 155 = .ok (.invokestatic 41, 3) := by decide +kernel
theorem dX0_copyFrom_158 : decode cX0_copyFrom 158 = .ok (.return_, 1) := by decide +kernel
set_option maxRecDepth 20000 in
theorem s_X0_copyFrom_0 {l : Launch} {G : GT} {d : Nat} {Q : AV → AH → Prop} {H : AH} {a0 a1 : Int} (h_r0 : Lay LFli H a0) (h_r1 : Lay LFli H a1) (h : ∀ H1 : AH, H1 = hs H a0 0 (hg H a1 0) → (-2147483648 ≤ (hg H1 a0 0) * 6 ∧ (hg H1 a0 0) * 6 ≤ 2147483647) ∧ (0 + ((hg H1 a0 0) * 6) ≤ 144) ∧ (0 ≤ ((hg H1 a0 0) * 6)) ∧ ∀ H2 : AH, only H1 H2 (fun c9 i9 => c9 = (a0 + 1) ∧ 0 ≤ i9 ∧ i9 < 0 + ((hg H1 a0 0) * 6)) → (∀ k9 : Int, 0 ≤ k9 → k9 < 0 + ((hg H1 a0 0) * 6) → hg H2 (a0 + 1) k9 = hg H1 (a1 + 1) (0 + (k9 - 0))) → (0 + (hg H2 a0 0) ≤ 24) ∧ (0 ≤ (hg H2 a0 0)) ∧ ∀ H3 : AH, only H2 H3 (fun c9 i9 => c9 = (a0 + 2) ∧ 0 ≤ i9 ∧ i9 < 0 + (hg H2 a0 0)) → (∀ k9 : Int, 0 ≤ k9 → k9 < 0 + (hg H2 a0 0) → hg H3 (a0 + 2) k9 = hg H2 (a1 + 2) (0 + (k9 - 0))) → AW l G mX0_copyFrom (d + 1) 0 0 Q 47 [vR a0, vR a1, vI 0] [] 0 0 H3) : AW l G mX0_copyFrom (d + 1) 0 0 Q 0 [vR a0, vR a1, vU] [] 0 0 H := by
  refine a_aload_n dX0_copyFrom_0 rfl rfl ?_
  refine a_aload_n dX0_copyFrom_1 rfl rfl ?_
  refine a_getI dX0_copyFrom_2 fw_RX0_37 rfl rfl (kFli_0 h_r1) ?_
  refine a_putI dX0_copyFrom_5 fp_RX0_37 rfl rfl (kFli_0 h_r0) ?_
  have h_r0_1 := Lay.wr h_r0 ok_Fli (nrf_fld 0 (kFli_0 h_r0) (by decide) (by decide)) (i := 0) (x := (hg H a1 0))
  have h_r1_1 := Lay.wr h_r1 ok_Fli (nrf_fld 0 (kFli_0 h_r0) (by decide) (by decide)) (i := 0) (x := (hg H a1 0))
  generalize e_H1 : hs H a0 0 (hg H a1 0) = H1 at h_r0_1 h_r1_1 ⊢
  replace h := h H1 e_H1.symm
  refine a_aload_n dX0_copyFrom_8 rfl rfl ?_
  refine a_getR dX0_copyFrom_9 fw_RX0_9 rfl rfl (kFli_0 h_r1_1) (rFli_0_1 h_r1_1) ?_
  refine a_iconst dX0_copyFrom_12 ⟨by decide, by decide⟩ ?_
  refine a_aload_n dX0_copyFrom_13 rfl rfl ?_
  refine a_getR dX0_copyFrom_14 fw_RX0_9 rfl rfl (kFli_0 h_r0_1) (rFli_0_1 h_r0_1) ?_
  refine a_iconst dX0_copyFrom_17 ⟨by decide, by decide⟩ ?_
  refine a_aload_n dX0_copyFrom_18 rfl rfl ?_
  refine a_getI dX0_copyFrom_19 fw_RX0_37 rfl rfl (kFli_0 h_r0_1) ?_
  refine a_bipush dX0_copyFrom_22 (by decide) ?_
  obtain ⟨q24_0, h⟩ := h
  refine a_imul dX0_copyFrom_24 q24_0 ?_
  obtain ⟨q25_0, h⟩ := h
  obtain ⟨q25_2, h⟩ := h
  refine a_copyI dX0_copyFrom_25 wac_537 (kFli_1 h_r1_1) (nFli_1 h_r1_1) (kFli_1 h_r0_1) (nFli_1 h_r0_1) ⟨by decide, q25_0⟩ ⟨by decide, q25_0⟩ q25_2 (Nat.le_of_ble_eq_true rfl) (fun H2 o_H2 v_H2 => ?_)
  replace h := h H2 o_H2 v_H2
  have h_r0_2 := Lay.only h_r0_1 ok_Fli o_H2 (fun c9 i9 q9 => by rw [q9.1]; exact nrf_arr (kFli_1 h_r0_1) (by decide) (by decide))
  have h_r1_2 := Lay.only h_r1_1 ok_Fli o_H2 (fun c9 i9 q9 => by rw [q9.1]; exact nrf_arr (kFli_1 h_r0_1) (by decide) (by decide))
  refine a_aload_n dX0_copyFrom_28 rfl rfl ?_
  refine a_getR dX0_copyFrom_29 fw_RX0_15 rfl rfl (kFli_0 h_r1_2) (rFli_0_2 h_r1_2) ?_
  refine a_iconst dX0_copyFrom_32 ⟨by decide, by decide⟩ ?_
  refine a_aload_n dX0_copyFrom_33 rfl rfl ?_
  refine a_getR dX0_copyFrom_34 fw_RX0_15 rfl rfl (kFli_0 h_r0_2) (rFli_0_2 h_r0_2) ?_
  refine a_iconst dX0_copyFrom_37 ⟨by decide, by decide⟩ ?_
  refine a_aload_n dX0_copyFrom_38 rfl rfl ?_
  refine a_getI dX0_copyFrom_39 fw_RX0_37 rfl rfl (kFli_0 h_r0_2) ?_
  obtain ⟨q42_0, h⟩ := h
  obtain ⟨q42_2, h⟩ := h
  refine a_copyI dX0_copyFrom_42 wac_537 (kFli_2 h_r1_2) (nFli_2 h_r1_2) (kFli_2 h_r0_2) (nFli_2 h_r0_2) ⟨by decide, q42_0⟩ ⟨by decide, q42_0⟩ q42_2 (Nat.le_of_ble_eq_true rfl) (fun H3 o_H3 v_H3 => ?_)
  replace h := h H3 o_H3 v_H3
  have h_r0_3 := Lay.only h_r0_2 ok_Fli o_H3 (fun c9 i9 q9 => by rw [q9.1]; exact nrf_arr (kFli_2 h_r0_2) (by decide) (by decide))
  have h_r1_3 := Lay.only h_r1_2 ok_Fli o_H3 (fun c9 i9 q9 => by rw [q9.1]; exact nrf_arr (kFli_2 h_r0_2) (by decide) (by decide))
  refine a_iconst dX0_copyFrom_45 ⟨by decide, by decide⟩ ?_
  refine a_istore_n dX0_copyFrom_46 rfl (Nat.le_of_ble_eq_true rfl) (ls' := [vR a0, vR a1, vI 0]) rfl ?_
  exact h

set_option maxRecDepth 20000 in
theorem s_X0_copyFrom_47 {l : Launch} {G : GT} {d : Nat} {Q : AV → AH → Prop} {H : AH} {a0 a1 x2 : Int} (h_r0 : Lay LFli H a0) (h_r1 : Lay LFli H a1) (h : ((hg H a0 0) ≤ x2 → (0 + (hg H a0 0) ≤ 24) ∧ (0 ≤ (hg H a0 0)) ∧ ∀ H1 : AH, only H H1 (fun c9 i9 => c9 = (a0 + 4) ∧ 0 ≤ i9 ∧ i9 < 0 + (hg H a0 0)) → (∀ k9 : Int, 0 ≤ k9 → k9 < 0 + (hg H a0 0) → hg H1 (a0 + 4) k9 = hg H (a1 + 4) (0 + (k9 - 0))) → (0 + (hg H1 a0 0) ≤ 24) ∧ (0 ≤ (hg H1 a0 0)) ∧ ∀ H2 : AH, only H1 H2 (fun c9 i9 => c9 = (a0 + 5) ∧ 0 ≤ i9 ∧ i9 < 0 + (hg H1 a0 0)) → (∀ k9 : Int, 0 ≤ k9 → k9 < 0 + (hg H1 a0 0) → hg H2 (a0 + 5) k9 = hg H1 (a1 + 5) (0 + (k9 - 0))) → (0 + (hg H2 a0 0) ≤ 24) ∧ (0 ≤ (hg H2 a0 0)) ∧ ∀ H3 : AH, only H2 H3 (fun c9 i9 => c9 = (a0 + 6) ∧ 0 ≤ i9 ∧ i9 < 0 + (hg H2 a0 0)) → (∀ k9 : Int, 0 ≤ k9 → k9 < 0 + (hg H2 a0 0) → hg H3 (a0 + 6) k9 = hg H2 (a1 + 6) (0 + (k9 - 0))) → (0 + (hg H3 a0 0) ≤ 24) ∧ (0 ≤ (hg H3 a0 0)) ∧ ∀ H4 : AH, only H3 H4 (fun c9 i9 => c9 = (a0 + 7) ∧ 0 ≤ i9 ∧ i9 < 0 + (hg H3 a0 0)) → (∀ k9 : Int, 0 ≤ k9 → k9 < 0 + (hg H3 a0 0) → hg H4 (a0 + 7) k9 = hg H3 (a1 + 7) (0 + (k9 - 0))) → (0 + (hg H4 a0 0) ≤ 24) ∧ (0 ≤ (hg H4 a0 0)) ∧ ∀ H5 : AH, only H4 H5 (fun c9 i9 => c9 = (a0 + 8) ∧ 0 ≤ i9 ∧ i9 < 0 + (hg H4 a0 0)) → (∀ k9 : Int, 0 ≤ k9 → k9 < 0 + (hg H4 a0 0) → hg H5 (a0 + 8) k9 = hg H4 (a1 + 8) (0 + (k9 - 0))) → Q vV H5) ∧ (x2 < (hg H a0 0) → (0 ≤ x2 ∧ x2 < 24) ∧ ((hg H (a1 + 3) x2) = 0 ∨ (hg H (a1 + 3) x2) = 1) ∧ ∀ H1 : AH, H1 = hs H (a0 + 3) x2 (hg H (a1 + 3) x2) → (-2147483648 ≤ x2 + 1 ∧ x2 + 1 ≤ 2147483647) ∧ AW l G mX0_copyFrom (d + 1) 0 0 Q 47 [vR a0, vR a1, vI (x2 + 1)] [] 0 0 H1)) : AW l G mX0_copyFrom (d + 1) 0 0 Q 47 [vR a0, vR a1, vI x2] [] 0 0 H := by
  refine a_iload_n dX0_copyFrom_47 rfl rfl ?_
  refine a_aload_n dX0_copyFrom_48 rfl rfl ?_
  refine a_getI dX0_copyFrom_49 fw_RX0_37 rfl rfl (kFli_0 h_r0) ?_
  refine a_icmp_ge dX0_copyFrom_52 (tgt := 73) rfl (fun c52 => ?_) (fun c52 => ?_)
  · replace h := h.1 c52
    refine a_aload_n dX0_copyFrom_73 rfl rfl ?_
    refine a_getR dX0_copyFrom_74 fw_RX0_22 rfl rfl (kFli_0 h_r1) (rFli_0_4 h_r1) ?_
    refine a_iconst dX0_copyFrom_77 ⟨by decide, by decide⟩ ?_
    refine a_aload_n dX0_copyFrom_78 rfl rfl ?_
    refine a_getR dX0_copyFrom_79 fw_RX0_22 rfl rfl (kFli_0 h_r0) (rFli_0_4 h_r0) ?_
    refine a_iconst dX0_copyFrom_82 ⟨by decide, by decide⟩ ?_
    refine a_aload_n dX0_copyFrom_83 rfl rfl ?_
    refine a_getI dX0_copyFrom_84 fw_RX0_37 rfl rfl (kFli_0 h_r0) ?_
    obtain ⟨q87_0, h⟩ := h
    obtain ⟨q87_2, h⟩ := h
    refine a_copyI dX0_copyFrom_87 wac_537 (kFli_4 h_r1) (nFli_4 h_r1) (kFli_4 h_r0) (nFli_4 h_r0) ⟨by decide, q87_0⟩ ⟨by decide, q87_0⟩ q87_2 (Nat.le_of_ble_eq_true rfl) (fun H1 o_H1 v_H1 => ?_)
    replace h := h H1 o_H1 v_H1
    have h_r0_1 := Lay.only h_r0 ok_Fli o_H1 (fun c9 i9 q9 => by rw [q9.1]; exact nrf_arr (kFli_4 h_r0) (by decide) (by decide))
    have h_r1_1 := Lay.only h_r1 ok_Fli o_H1 (fun c9 i9 q9 => by rw [q9.1]; exact nrf_arr (kFli_4 h_r0) (by decide) (by decide))
    refine a_aload_n dX0_copyFrom_90 rfl rfl ?_
    refine a_getR dX0_copyFrom_91 fw_RX0_25 rfl rfl (kFli_0 h_r1_1) (rFli_0_5 h_r1_1) ?_
    refine a_iconst dX0_copyFrom_94 ⟨by decide, by decide⟩ ?_
    refine a_aload_n dX0_copyFrom_95 rfl rfl ?_
    refine a_getR dX0_copyFrom_96 fw_RX0_25 rfl rfl (kFli_0 h_r0_1) (rFli_0_5 h_r0_1) ?_
    refine a_iconst dX0_copyFrom_99 ⟨by decide, by decide⟩ ?_
    refine a_aload_n dX0_copyFrom_100 rfl rfl ?_
    refine a_getI dX0_copyFrom_101 fw_RX0_37 rfl rfl (kFli_0 h_r0_1) ?_
    obtain ⟨q104_0, h⟩ := h
    obtain ⟨q104_2, h⟩ := h
    refine a_copyI dX0_copyFrom_104 wac_537 (kFli_5 h_r1_1) (nFli_5 h_r1_1) (kFli_5 h_r0_1) (nFli_5 h_r0_1) ⟨by decide, q104_0⟩ ⟨by decide, q104_0⟩ q104_2 (Nat.le_of_ble_eq_true rfl) (fun H2 o_H2 v_H2 => ?_)
    replace h := h H2 o_H2 v_H2
    have h_r0_2 := Lay.only h_r0_1 ok_Fli o_H2 (fun c9 i9 q9 => by rw [q9.1]; exact nrf_arr (kFli_5 h_r0_1) (by decide) (by decide))
    have h_r1_2 := Lay.only h_r1_1 ok_Fli o_H2 (fun c9 i9 q9 => by rw [q9.1]; exact nrf_arr (kFli_5 h_r0_1) (by decide) (by decide))
    refine a_aload_n dX0_copyFrom_107 rfl rfl ?_
    refine a_getR dX0_copyFrom_108 fw_RX0_28 rfl rfl (kFli_0 h_r1_2) (rFli_0_6 h_r1_2) ?_
    refine a_iconst dX0_copyFrom_111 ⟨by decide, by decide⟩ ?_
    refine a_aload_n dX0_copyFrom_112 rfl rfl ?_
    refine a_getR dX0_copyFrom_113 fw_RX0_28 rfl rfl (kFli_0 h_r0_2) (rFli_0_6 h_r0_2) ?_
    refine a_iconst dX0_copyFrom_116 ⟨by decide, by decide⟩ ?_
    refine a_aload_n dX0_copyFrom_117 rfl rfl ?_
    refine a_getI dX0_copyFrom_118 fw_RX0_37 rfl rfl (kFli_0 h_r0_2) ?_
    obtain ⟨q121_0, h⟩ := h
    obtain ⟨q121_2, h⟩ := h
    refine a_copyI dX0_copyFrom_121 wac_537 (kFli_6 h_r1_2) (nFli_6 h_r1_2) (kFli_6 h_r0_2) (nFli_6 h_r0_2) ⟨by decide, q121_0⟩ ⟨by decide, q121_0⟩ q121_2 (Nat.le_of_ble_eq_true rfl) (fun H3 o_H3 v_H3 => ?_)
    replace h := h H3 o_H3 v_H3
    have h_r0_3 := Lay.only h_r0_2 ok_Fli o_H3 (fun c9 i9 q9 => by rw [q9.1]; exact nrf_arr (kFli_6 h_r0_2) (by decide) (by decide))
    have h_r1_3 := Lay.only h_r1_2 ok_Fli o_H3 (fun c9 i9 q9 => by rw [q9.1]; exact nrf_arr (kFli_6 h_r0_2) (by decide) (by decide))
    refine a_aload_n dX0_copyFrom_124 rfl rfl ?_
    refine a_getR dX0_copyFrom_125 fw_RX0_31 rfl rfl (kFli_0 h_r1_3) (rFli_0_7 h_r1_3) ?_
    refine a_iconst dX0_copyFrom_128 ⟨by decide, by decide⟩ ?_
    refine a_aload_n dX0_copyFrom_129 rfl rfl ?_
    refine a_getR dX0_copyFrom_130 fw_RX0_31 rfl rfl (kFli_0 h_r0_3) (rFli_0_7 h_r0_3) ?_
    refine a_iconst dX0_copyFrom_133 ⟨by decide, by decide⟩ ?_
    refine a_aload_n dX0_copyFrom_134 rfl rfl ?_
    refine a_getI dX0_copyFrom_135 fw_RX0_37 rfl rfl (kFli_0 h_r0_3) ?_
    obtain ⟨q138_0, h⟩ := h
    obtain ⟨q138_2, h⟩ := h
    refine a_copyI dX0_copyFrom_138 wac_537 (kFli_7 h_r1_3) (nFli_7 h_r1_3) (kFli_7 h_r0_3) (nFli_7 h_r0_3) ⟨by decide, q138_0⟩ ⟨by decide, q138_0⟩ q138_2 (Nat.le_of_ble_eq_true rfl) (fun H4 o_H4 v_H4 => ?_)
    replace h := h H4 o_H4 v_H4
    have h_r0_4 := Lay.only h_r0_3 ok_Fli o_H4 (fun c9 i9 q9 => by rw [q9.1]; exact nrf_arr (kFli_7 h_r0_3) (by decide) (by decide))
    have h_r1_4 := Lay.only h_r1_3 ok_Fli o_H4 (fun c9 i9 q9 => by rw [q9.1]; exact nrf_arr (kFli_7 h_r0_3) (by decide) (by decide))
    refine a_aload_n dX0_copyFrom_141 rfl rfl ?_
    refine a_getR dX0_copyFrom_142 fw_RX0_34 rfl rfl (kFli_0 h_r1_4) (rFli_0_8 h_r1_4) ?_
    refine a_iconst dX0_copyFrom_145 ⟨by decide, by decide⟩ ?_
    refine a_aload_n dX0_copyFrom_146 rfl rfl ?_
    refine a_getR dX0_copyFrom_147 fw_RX0_34 rfl rfl (kFli_0 h_r0_4) (rFli_0_8 h_r0_4) ?_
    refine a_iconst dX0_copyFrom_150 ⟨by decide, by decide⟩ ?_
    refine a_aload_n dX0_copyFrom_151 rfl rfl ?_
    refine a_getI dX0_copyFrom_152 fw_RX0_37 rfl rfl (kFli_0 h_r0_4) ?_
    obtain ⟨q155_0, h⟩ := h
    obtain ⟨q155_2, h⟩ := h
    refine a_copyI dX0_copyFrom_155 wac_537 (kFli_8 h_r1_4) (nFli_8 h_r1_4) (kFli_8 h_r0_4) (nFli_8 h_r0_4) ⟨by decide, q155_0⟩ ⟨by decide, q155_0⟩ q155_2 (Nat.le_of_ble_eq_true rfl) (fun H5 o_H5 v_H5 => ?_)
    replace h := h H5 o_H5 v_H5
    have h_r0_5 := Lay.only h_r0_4 ok_Fli o_H5 (fun c9 i9 q9 => by rw [q9.1]; exact nrf_arr (kFli_8 h_r0_4) (by decide) (by decide))
    have h_r1_5 := Lay.only h_r1_4 ok_Fli o_H5 (fun c9 i9 q9 => by rw [q9.1]; exact nrf_arr (kFli_8 h_r0_4) (by decide) (by decide))
    exact a_vret dX0_copyFrom_158 rfl (Nat.le_of_ble_eq_true rfl) (Nat.le_of_ble_eq_true rfl) h
  · replace h := h.2 c52
    refine a_aload_n dX0_copyFrom_55 rfl rfl ?_
    refine a_getR dX0_copyFrom_56 fw_RX0_18 rfl rfl (kFli_0 h_r0) (rFli_0_3 h_r0) ?_
    refine a_iload_n dX0_copyFrom_59 rfl rfl ?_
    refine a_aload_n dX0_copyFrom_60 rfl rfl ?_
    refine a_getR dX0_copyFrom_61 fw_RX0_18 rfl rfl (kFli_0 h_r1) (rFli_0_3 h_r1) ?_
    refine a_iload_n dX0_copyFrom_64 rfl rfl ?_
    obtain ⟨q65_0, h⟩ := h
    refine b_zald dX0_copyFrom_65 (kFli_3 h_r1) (nFli_3 h_r1) q65_0 ?_
    obtain ⟨q66_1, h⟩ := h
    refine b_zast dX0_copyFrom_66 (kFli_3 h_r0) (nFli_3 h_r0) q65_0 q66_1 ?_
    have h_r0_1 := Lay.wr h_r0 ok_Fli (nrf_arr (kFli_3 h_r0) (by decide) (by decide)) (i := x2) (x := (hg H (a1 + 3) x2))
    have h_r1_1 := Lay.wr h_r1 ok_Fli (nrf_arr (kFli_3 h_r0) (by decide) (by decide)) (i := x2) (x := (hg H (a1 + 3) x2))
    generalize e_H1 : hs H (a0 + 3) x2 (hg H (a1 + 3) x2) = H1 at h_r0_1 h_r1_1 ⊢
    replace h := h H1 e_H1.symm
    obtain ⟨q67_0, h⟩ := h
    refine a_iinc dX0_copyFrom_67 rfl (Nat.le_of_ble_eq_true rfl) (by decide) q67_0 (ls' := [vR a0, vR a1, vI (x2 + 1)]) rfl ?_
    refine a_goto dX0_copyFrom_70 (tgt := 47) rfl ?_
    exact h


theorem dX6_clear_0 : decode cX6_clear 0 = .ok (.aload_n 0, 1) := by decide +kernel
theorem dX6_clear_1 : decode cX6_clear 1 = .ok (.getfield 12, 3) := by decide +kernel
theorem dX6_clear_4 : decode cX6_clear 4 = .ok (.invokevirtual 54, 3) := by decide +kernel
theorem dX6_clear_7 : decode cX6_clear 7 = .ok (.aload_n 0, 1) := by decide +kernel
theorem dX6_clear_8 : decode cX6_clear 8 = .ok (.getfield 21, 3) := by decide +kernel
theorem dX6_clear_11 : decode cX6_clear 11 = .ok (.iconst 0, 1) := by decide +kernel
theorem dX6_clear_12 : decode cX6_clear 12 = .ok (.putfield 57, 3) := by decide +kernel
theorem dX6_clear_15 : decode cX6_clear 15 = .ok (.aload_n 0, 1) := by decide +kernel
theorem dX6_clear_16 : decode cX6_clear 16 = .ok (.iconst 0, 1) := by decide +kernel
theorem dX6_clear_17 : decode cX6_clear 17 = .ok (.putfield 61, 3) := by decide +kernel
theorem dX6_clear_20 : decode cX6_clear 20 = .ok (.aload_n 0, 1) := by decide +kernel
theorem dX6_clear_21 : decode cX6_clear 21 = .ok (.iconst 0, 1) := by decide +kernel
theorem dX6_clear_22 : decode cX6_clear 22 = .ok (.putfield 64, 3) := by decide +kernel
theorem dX6_clear_25 : decode cX6_clear 25 = .ok (.aload_n 0, 1) := by decide +kernel
theorem dX6_clear_26 : decode cX6_clear 26 = .ok (.invokevirtual 67, 3) := by decide +kernel
theorem dX6_clear_29 : decode cX6_clear 29 = .ok (.return_, 1) := by decide +kernel
set_option maxRecDepth 20000 in
theorem s_X6_clear_0 {l : Launch} {G : GT} {d : Nat} {Q : AV → AH → Prop} {H : AH} {a0 : Int} (h_r0 : Lay LSta H a0) (h : CL l G mX4_setDefaults d 0 0 [vR (a0 + 1)] H (fun r9 H1 => Lay LSta H1 a0 ∧ r9 = vV ∧ ∀ H2 : AH, H2 = hs H1 (a0 + 5) 0 0 → ∀ H3 : AH, H3 = hs H2 a0 2 0 → ∀ H4 : AH, H4 = hs H3 a0 8 0 → CL l G mX6_forgetPlans d 0 0 [vR a0] H4 (fun r9 H5 => Lay LSta H5 a0 ∧ r9 = vV ∧ Q vV H5))) : AW l G mX6_clear (d + 1) 0 0 Q 0 [vR a0] [] 0 0 H := by
  refine a_aload_n dX6_clear_0 rfl rfl ?_
  refine a_getR dX6_clear_1 fw_RX6_12 rfl rfl (kSta_0 h_r0) (rSta_0_0 h_r0) ?_
  refine a_callV dX6_clear_4 cw_X6_clear_4 (as := []) rfl rfl (kSta_1 h_r0) (Nat.le_refl _) (Nat.le_of_ble_eq_true rfl) (nocov rfl) (Nat.le_of_ble_eq_true rfl) (Nat.le_of_ble_eq_true rfl) (CL.mono h (fun r9 H1 h => ?_))
  obtain ⟨h_r0_1, e9, h⟩ := h
  rw [e9]
  show AW l G mX6_clear (d + 1) 0 0 Q 7 [vR a0] [] 0 0 H1
  refine a_aload_n dX6_clear_7 rfl rfl ?_
  refine a_getR dX6_clear_8 fw_RX6_21 rfl rfl (kSta_0 h_r0_1) (rSta_0_1 h_r0_1) ?_
  refine a_iconst dX6_clear_11 ⟨by decide, by decide⟩ ?_
  refine a_putI dX6_clear_12 fp_RX6_57 rfl rfl (kSta_5 h_r0_1) ?_
  have h_r0_2 := Lay.wr h_r0_1 ok_Sta (nrf_fld 0 (kSta_5 h_r0_1) (by decide) (by decide)) (i := 0) (x := 0)
  generalize e_H2 : hs H1 (a0 + 5) 0 0 = H2 at h_r0_2 ⊢
  replace h := h H2 e_H2.symm
  refine a_aload_n dX6_clear_15 rfl rfl ?_
  refine a_iconst dX6_clear_16 ⟨by decide, by decide⟩ ?_
  refine a_putI dX6_clear_17 fp_RX6_61 rfl rfl (kSta_0 h_r0_2) ?_
  have h_r0_3 := Lay.wr h_r0_2 ok_Sta (nrf_fld 2 (kSta_0 h_r0_2) (by decide) (by decide)) (i := 2) (x := 0)
  generalize e_H3 : hs H2 a0 2 0 = H3 at h_r0_3 ⊢
  replace h := h H3 e_H3.symm
  refine a_aload_n dX6_clear_20 rfl rfl ?_
  refine a_iconst dX6_clear_21 ⟨by decide, by decide⟩ ?_
  refine a_putI dX6_clear_22 fp_RX6_64 rfl rfl (kSta_0 h_r0_3) ?_
  have h_r0_4 := Lay.wr h_r0_3 ok_Sta (nrf_fld 8 (kSta_0 h_r0_3) (by decide) (by decide)) (i := 8) (x := 0)
  generalize e_H4 : hs H3 a0 8 0 = H4 at h_r0_4 ⊢
  replace h := h H4 e_H4.symm
  refine a_aload_n dX6_clear_25 rfl rfl ?_
  refine a_callV dX6_clear_26 cw_X6_clear_26 (as := []) rfl rfl (kSta_0 h_r0_4) (Nat.le_refl _) (Nat.le_of_ble_eq_true rfl) (nocov rfl) (Nat.le_of_ble_eq_true rfl) (Nat.le_of_ble_eq_true rfl) (CL.mono h (fun r9 H5 h => ?_))
  obtain ⟨h_r0_5, e9, h⟩ := h
  rw [e9]
  show AW l G mX6_clear (d + 1) 0 0 Q 29 [vR a0] [] 0 0 H5
  exact a_vret dX6_clear_29 rfl (Nat.le_of_ble_eq_true rfl) (Nat.le_of_ble_eq_true rfl) h


theorem dX6_copyFrom_0 : decode cX6_copyFrom 0 = .ok (.aload_n 0, 1) := by decide +kernel
theorem dX6_copyFrom_1 : decode cX6_copyFrom 1 = .ok (.getfield 12, 3) := by decide +kernel
theorem dX6_copyFrom_4 : decode cX6_copyFrom 4 = .ok (.aload_n 1, 1) := by decide +kernel
theorem dX6_copyFrom_5 : decode cX6_copyFrom 5 = .ok (.getfield 12, 3) := by decide +kernel
theorem dX6_copyFrom_8 : decode cX6_copyFrom 8 = .ok (.invokevirtual 70, 3) := by decide +kernel
theorem dX6_copyFrom_11 : decode cX6_copyFrom 11 = .ok (.aload_n 0, 1) := by decide +kernel
theorem dX6_copyFrom_12 : decode cX6_copyFrom 12 = .ok (.getfield 21, 3) := by decide +kernel
theorem dX6_copyFrom_15 : decode cX6_copyFrom 15 = .ok (.aload_n 1, 1) := by decide +kernel
theorem dX6_copyFrom_16 : decode cX6_copyFrom 16 = .ok (.getfield 21, 3) := by decide +kernel
theorem dX6_copyFrom_19 : decode cX6_copyFrom 19 = .ok (.invokevirtual 74, 3) := by decide +kernel
theorem dX6_copyFrom_22 : decode cX6_copyFrom 22 = .ok (.aload_n 0, 1) := by decide +kernel
theorem dX6_copyFrom_23 : decode cX6_copyFrom 23 = .ok (.getfield 21, 3) := by decide +kernel
theorem dX6_copyFrom_26 : decode cX6_copyFrom 26 = .ok (.getfield 57, 3) := by decide +kernel
theorem dX6_copyFrom_29 : decode cX6_copyFrom 29 = .ok (.istore_n 2, 1) := by decide +kernel
theorem dX6_copyFrom_30 : decode cX6_copyFrom 30 = .ok (.aload_n 0, 1) := by decide +kernel
theorem dX6_copyFrom_31 : decode cX6_copyFrom 31 = .ok (.aload_n 1, 1) := by decide +kernel
theorem dX6_copyFrom_32 : decode cX6_copyFrom 32 = .ok (.getfield 61, 3) := by decide +kernel
theorem dX6_copyFrom_35 : decode cX6_copyFrom 35 = .ok (.putfield 61, 3) := by decide +kernel
theorem dX6_copyFrom_38 : decode cX6_copyFrom 38 = .ok (.aload_n 0, 1) := by decide +kernel
theorem dX6_copyFrom_39 : decode cX6_copyFrom 39 = .ok (.aload_n 1, 1) := by decide +kernel
theorem dX6_copyFrom_40 : decode cX6_copyFrom 40 = .ok (.getfield 64, 3) := by decide +kernel
theorem dX6_copyFrom_43 : decode cX6_copyFrom 43 = .ok (.putfield 64, 3) := by decide +kernel
theorem dX6_copyFrom_46 : decode cX6_copyFrom 46 = .ok (.aload_n 1, 1) := by decide +kernel
theorem dX6_copyFrom_47 : decode cX6_copyFrom 47 = .ok (.getfield 25, 3) := by decide +kernel
theorem dX6_copyFrom_50 : decode cX6_copyFrom 50 = .ok (.iconst 0, 1) := by decide +kernel
theorem dX6_copyFrom_51 : decode cX6_copyFrom 51 = .ok (.aload_n 0, 1) := by decide +kernel
theorem dX6_copyFrom_52 : decode cX6_copyFrom 52 = .ok (.getfield 25, 3) := by decide +kernel
theorem dX6_copyFrom_55 : decode cX6_copyFrom 55 = .ok (.iconst 0, 1) := by decide +kernel
theorem dX6_copyFrom_56 : decode cX6_copyFrom 56 = .ok (.iload_n 2, 1) := by decide +kernel
theorem dX6_copyFrom_57 : decode cX6_copyFrom 57 = .ok (.invokestatic 77, 3) := by decide +kernel
theorem dX6_copyFrom_60 : decode cX6_copyFrom 60 = .ok (.aload_n 1, 1) := by decide +kernel
theorem dX6_copyFrom_61 : decode cX6_copyFrom 61 = .ok (.getfield 29, 3) := by decide +kernel
theorem dX6_copyFrom_64 : decode cX6_copyFrom 64 = .ok (.iconst 0, 1) := by decide +kernel
theorem dX6_copyFrom_65 : decode cX6_copyFrom 65 = .ok (.aload_n 0, 1) := by decide +kernel
theorem dX6_copyFrom_66 : decode cX6_copyFrom 66 = .ok (.getfield 29, 3) := by decide +kernel
theorem dX6_copyFrom_69 : decode cX6_copyFrom 69 = .ok (.iconst 0, 1) := by decide +kernel
theorem dX6_copyFrom_70 : decode cX6_copyFrom 70 = .ok (.iload_n 2, 1) := by decide +kernel
theorem dX6_copyFrom_71 : decode cX6_copyFrom 71 = .ok (.invokestatic 77, 3) := by decide +kernel
theorem dX6_copyFrom_74 : decode cX6_copyFrom 74 = .ok (.aload_n 1, 1) := by decide +kernel
theorem dX6_copyFrom_75 : decode cX6_copyFrom 75 = .ok (.getfield 32, 3) := by decide +kernel
theorem dX6_copyFrom_78 : decode cX6_copyFrom 78 = .ok (.iconst 0, 1) := by decide +kernel
theorem dX6_copyFrom_79 : decode cX6_copyFrom 79 = .ok (.aload_n 0, 1) := by decide +kernel
theorem dX6_copyFrom_80 : decode cX6_copyFrom 80 = .ok (.getfield 32, 3) := by decide +kernel
theorem dX6_copyFrom_83 : decode cX6_copyFrom 83 = .ok (.iconst 0, 1) := by decide +kernel
theorem dX6_copyFrom_84 : decode cX6_copyFrom 84 = .ok (.iload_n 2, 1) := by decide +kernel
theorem dX6_copyFrom_85 : decode cX6_copyFrom 85 = .ok (.invokestatic 77, 3) := by decide +kernel
theorem dX6_copyFrom_88 : decode cX6_copyFrom 88 = .ok (.aload_n 1, 1) := by decide +kernel
theorem dX6_copyFrom_89 : decode cX6_copyFrom 89 = .ok (.getfield 35, 3) := by decide +kernel
theorem dX6_copyFrom_92 : decode cX6_copyFrom 92 = .ok (.iconst 0, 1) := by decide +kernel
theorem dX6_copyFrom_93 : decode cX6_copyFrom 93 = .ok (.aload_n 0, 1) := by decide +kernel
theorem dX6_copyFrom_94 : decode cX6_copyFrom 94 = .ok (.getfield 35, 3) := by decide +kernel
theorem dX6_copyFrom_97 : decode cX6_copyFrom 97 = .ok (.iconst 0, 1) := by decide +kernel
theorem dX6_copyFrom_98 : decode cX6_copyFrom 98 = .ok (.iload_n 2, 1) := by decide +kernel
theorem dX6_copyFrom_99 : decode cX6_copyFrom 99 = .ok (.invokestatic 77, 3) := by decide +kernel
theorem dX6_copyFrom_102 : decode cX6_copyFrom 102 = .ok (.aload_n 1, 1) := by decide +kernel
theorem dX6_copyFrom_103 : decode cX6_copyFrom 103 = .ok (.getfield 38, 3) := by decide +kernel
theorem dX6_copyFrom_106 : decode cX6_copyFrom 106 = .ok (.iconst 0, 1) := by decide +kernel
theorem dX6_copyFrom_107 : decode cX6_copyFrom 107 = .ok (.aload_n 0, 1) := by decide +kernel
theorem dX6_copyFrom_108 : decode cX6_copyFrom 108 = .ok (.getfield 38, 3) := by decide +kernel
theorem dX6_copyFrom_111 : decode cX6_copyFrom 111 = .ok (.iconst 0, 1) := by decide +kernel
theorem dX6_copyFrom_112 : decode cX6_copyFrom 112 = .ok (.aload_n 0, 1) := by decide +kernel
theorem dX6_copyFrom_113 : decode cX6_copyFrom 113 = .ok (.getfield 64, 3) := by decide +kernel
theorem dX6_copyFrom_116 : decode cX6_copyFrom 116 = .ok (.invokestatic 77, 3) := by decide +kernel
theorem dX6_copyFrom_119 : decode cX6_copyFrom 119 = .ok (.iconst 0, 1) := by decide +kernel
theorem dX6_copyFrom_120 : decode cX6_copyFrom 120 = .ok (.istore_n 3, 1) := by decide +kernel
theorem dX6_copyFrom_121 : decode cX6_copyFrom 121 = .ok (.iload_n 3, 1) := by decide +kernel
theorem dX6_copyFrom_122 : decode cX6_copyFrom 122 = .ok (.iconst 3, 1) := by decide +kernel
theorem dX6_copyFrom_123 : decode cX6_copyFrom 123 = .ok (.if_icmp .ge 70, 3) := by decide +kernel
theorem dX6_copyFrom_126 : decode cX6_copyFrom 126 = .ok (.aload_n 0, 1) := by decide +kernel
theorem dX6_copyFrom_127 : decode cX6_copyFrom 127 = .ok (.getfield 44, 3) := by decide +kernel
theorem dX6_copyFrom_130 : decode cX6_copyFrom 130 = .ok (.iload_n 3, 1) := by decide +kernel
theorem dX6_copyFrom_131 : decode cX6_copyFrom 131 = .ok (.aload_n 1, 1) := by decide +kernel
theorem dX6_copyFrom_132 : decode cX6_copyFrom 132 = .ok (.getfield 44, 3) := by decide +kernel
theorem dX6_copyFrom_135 : decode cX6_copyFrom 135 = .ok (.iload_n 3, 1) := by decide +kernel
theorem dX6_copyFrom_136 : decode cX6_copyFrom 136 = .ok (.iaload, 1) := by decide +kernel
theorem dX6_copyFrom_137 : decode cX6_copyFrom 137 = .ok (.iastore, 1) := by decide +kernel
theorem dX6_copyFrom_138 : decode cX6_copyFrom 138 = .ok (.aload_n 0, 1) := by decide +kernel
theorem dX6_copyFrom_139 : decode cX6_copyFrom 139 = .ok (.getfield 47, 3) := by decide +kernel
theorem dX6_copyFrom_142 : decode cX6_copyFrom 142 = .ok (.iload_n 3, 1) := by decide +kernel
theorem dX6_copyFrom_143 : decode cX6_copyFrom 143 = .ok (.aload_n 1, 1) := by decide +kernel
theorem dX6_copyFrom_144 : decode cX6_copyFrom 144 = .ok (.getfield 47, 3) := by decide +kernel
theorem dX6_copyFrom_147 : decode cX6_copyFrom 147 = .ok (.iload_n 3, 1) := by decide +kernel
theorem dX6_copyFrom_148 : decode cX6_copyFrom 148 = .ok (.baload, 1) := by decide +kernel
theorem dX6_copyFrom_149 : decode cX6_copyFrom 149 = .ok (.bastore, 1) := by decide +kernel
theorem dX6_copyFrom_150 : decode cX6_copyFrom 150 = .ok (.aload_n 0, 1) := by decide +kernel
theorem dX6_copyFrom_151 : decode cX6_copyFrom 151 = .ok (.getfield 51, 3) := by decide +kernel
theorem dX6_copyFrom_154 : decode cX6_copyFrom 154 = .ok (.iload_n 3, 1) := by decide +kernel
theorem dX6_copyFrom_155 : decode cX6_copyFrom 155 = .ok (.aload_n 1, 1) := by decide +kernel
theorem dX6_copyFrom_156 : decode cX6_copyFrom 156 = .ok (.getfield 51, 3) := by decide +kernel
theorem dX6_copyFrom_159 : decode cX6_copyFrom 159 = .ok (.iload_n 3, 1) := by decide +kernel
theorem dX6_copyFrom_160 : decode cX6_copyFrom 160 = .ok (.iaload, 1) := by decide +kernel
theorem dX6_copyFrom_161 : decode cX6_copyFrom 161 = .ok (.iastore, 1) := by decide +kernel
theorem dX6_copyFrom_162 : decode cX6_copyFrom 162 = .ok (.aload_n 1, 1) := by decide +kernel
theorem dX6_copyFrom_163 : decode cX6_copyFrom 163 = .ok (.getfield 41, 3) := by decide +kernel
theorem dX6_copyFrom_166 : decode cX6_copyFrom 166 = .ok (.iload_n 3, 1) := by decide +kernel
theorem dX6_copyFrom_167 : decode cX6_copyFrom 167 = .ok (.bipush 24, 2) := by decide +kernel
theorem dX6_copyFrom_169 : decode cX6_copyFrom 169 = .ok (.imul, 1) := by decide +kernel
theorem dX6_copyFrom_170 : decode cX6_copyFrom 170 = .ok (.aload_n 0, 1) := by decide +kernel
theorem dX6_copyFrom_171 : decode cX6_copyFrom 171 = .ok (.getfield 41, 3) := by decide +kernel
theorem dX6_copyFrom_174 : decode cX6_copyFrom 174 = .ok (.iload_n 3, 1) := by decide +kernel
theorem dX6_copyFrom_175 : decode cX6_copyFrom 175 = .ok (.bipush 24, 2) := by decide +kernel
theorem dX6_copyFrom_177 : decode cX6_copyFrom 177 = .ok (.imul, 1) := by decide +kernel
theorem dX6_copyFrom_178 : decode cX6_copyFrom 178 = .ok (.aload_n 0, 1) := by decide +kernel
theorem dX6_copyFrom_179 : decode cX6_copyFrom 179 = .ok (.getfield 44, 3) := by decide +kernel
theorem dX6_copyFrom_182 : decode cX6_copyFrom 182 = .ok (.iload_n 3, 1) := by decide +kernel
theorem dX6_copyFrom_183 : decode cX6_copyFrom 183 = .ok (.iaload, 1) := by decide +kernel
theorem dX6_copyFrom_184 : decode cX6_copyFrom 184 = .ok (.invokestatic 77, 3) := by decide +kernel
theorem dX6_copyFrom_187 : decode cX6_copyFrom 187 = .ok (.iinc 3 1, 3) := by decide +kernel
theorem dX6_copyFrom_190 : decode cX6_copyFrom 190 = .ok (.goto (-69), 3) := by decide +kernel
theorem dX6_copyFrom_193 : decode cX6_copyFrom 193 = .ok (.return_, 1) := by decide +kernel
set_option maxRecDepth 20000 in
theorem s_X6_copyFrom_0 {l : Launch} {G : GT} {d : Nat} {Q : AV → AH → Prop} {H : AH} {a0 a1 : Int} (h_r0 : Lay LSta H a0) (h_r1 : Lay LSta H a1) (h : CL l G mX4_copyFrom d 0 0 [vR (a0 + 1), vR (a1 + 1)] H (fun r9 H1 => Lay LSta H1 a0 ∧ Lay LSta H1 a1 ∧ r9 = vV ∧ CL l G mX0_copyFrom d 0 0 [vR (a0 + 5), vR (a1 + 5)] H1 (fun r9 H2 => Lay LSta H2 a0 ∧ Lay LSta H2 a1 ∧ r9 = vV ∧ ∀ H3 : AH, H3 = hs H2 a0 2 (hg H2 a1 2) → ∀ H4 : AH, H4 = hs H3 a0 8 (hg H3 a1 8) → (0 + (hg H2 (a0 + 5) 0) ≤ 24) ∧ (0 ≤ (hg H2 (a0 + 5) 0)) ∧ ∀ H5 : AH, only H4 H5 (fun c9 i9 => c9 = (a0 + 14) ∧ 0 ≤ i9 ∧ i9 < 0 + (hg H2 (a0 + 5) 0)) → (∀ k9 : Int, 0 ≤ k9 → k9 < 0 + (hg H2 (a0 + 5) 0) → hg H5 (a0 + 14) k9 = hg H4 (a1 + 14) (0 + (k9 - 0))) → ∀ H6 : AH, only H5 H6 (fun c9 i9 => c9 = (a0 + 15) ∧ 0 ≤ i9 ∧ i9 < 0 + (hg H2 (a0 + 5) 0)) → (∀ k9 : Int, 0 ≤ k9 → k9 < 0 + (hg H2 (a0 + 5) 0) → hg H6 (a0 + 15) k9 = hg H5 (a1 + 15) (0 + (k9 - 0))) → ∀ H7 : AH, only H6 H7 (fun c9 i9 => c9 = (a0 + 16) ∧ 0 ≤ i9 ∧ i9 < 0 + (hg H2 (a0 + 5) 0)) → (∀ k9 : Int, 0 ≤ k9 → k9 < 0 + (hg H2 (a0 + 5) 0) → hg H7 (a0 + 16) k9 = hg H6 (a1 + 16) (0 + (k9 - 0))) → ∀ H8 : AH, only H7 H8 (fun c9 i9 => c9 = (a0 + 17) ∧ 0 ≤ i9 ∧ i9 < 0 + (hg H2 (a0 + 5) 0)) → (∀ k9 : Int, 0 ≤ k9 → k9 < 0 + (hg H2 (a0 + 5) 0) → hg H8 (a0 + 17) k9 = hg H7 (a1 + 17) (0 + (k9 - 0))) → (0 + (hg H8 a0 8) ≤ 24) ∧ (0 ≤ (hg H8 a0 8)) ∧ ∀ H9 : AH, only H8 H9 (fun c9 i9 => c9 = (a0 + 18) ∧ 0 ≤ i9 ∧ i9 < 0 + (hg H8 a0 8)) → (∀ k9 : Int, 0 ≤ k9 → k9 < 0 + (hg H8 a0 8) → hg H9 (a0 + 18) k9 = hg H8 (a1 + 18) (0 + (k9 - 0))) → AW l G mX6_copyFrom (d + 1) 0 0 Q 121 [vR a0, vR a1, vI (hg H2 (a0 + 5) 0), vI 0] [] 0 0 H9))) : AW l G mX6_copyFrom (d + 1) 0 0 Q 0 [vR a0, vR a1, vU, vU] [] 0 0 H := by
  refine a_aload_n dX6_copyFrom_0 rfl rfl ?_
  refine a_getR dX6_copyFrom_1 fw_RX6_12 rfl rfl (kSta_0 h_r0) (rSta_0_0 h_r0) ?_
  refine a_aload_n dX6_copyFrom_4 rfl rfl ?_
  refine a_getR dX6_copyFrom_5 fw_RX6_12 rfl rfl (kSta_0 h_r1) (rSta_0_0 h_r1) ?_
  refine a_callV dX6_copyFrom_8 cw_X6_copyFrom_8 (as := [vR (a1 + 1)]) rfl rfl (kSta_1 h_r0) (Nat.le_refl _) (Nat.le_of_ble_eq_true rfl) (nocov rfl) (Nat.le_of_ble_eq_true rfl) (Nat.le_of_ble_eq_true rfl) (CL.mono h (fun r9 H1 h => ?_))
  obtain ⟨h_r0_1, h_r1_1, e9, h⟩ := h
  rw [e9]
  show AW l G mX6_copyFrom (d + 1) 0 0 Q 11 [vR a0, vR a1, vU, vU] [] 0 0 H1
  refine a_aload_n dX6_copyFrom_11 rfl rfl ?_
  refine a_getR dX6_copyFrom_12 fw_RX6_21 rfl rfl (kSta_0 h_r0_1) (rSta_0_1 h_r0_1) ?_
  refine a_aload_n dX6_copyFrom_15 rfl rfl ?_
  refine a_getR dX6_copyFrom_16 fw_RX6_21 rfl rfl (kSta_0 h_r1_1) (rSta_0_1 h_r1_1) ?_
  refine a_callV dX6_copyFrom_19 cw_X6_copyFrom_19 (as := [vR (a1 + 5)]) rfl rfl (kSta_5 h_r0_1) (Nat.le_refl _) (Nat.le_of_ble_eq_true rfl) (nocov rfl) (Nat.le_of_ble_eq_true rfl) (Nat.le_of_ble_eq_true rfl) (CL.mono h (fun r9 H2 h => ?_))
  obtain ⟨h_r0_2, h_r1_2, e9, h⟩ := h
  rw [e9]
  show AW l G mX6_copyFrom (d + 1) 0 0 Q 22 [vR a0, vR a1, vU, vU] [] 0 0 H2
  refine a_aload_n dX6_copyFrom_22 rfl rfl ?_
  refine a_getR dX6_copyFrom_23 fw_RX6_21 rfl rfl (kSta_0 h_r0_2) (rSta_0_1 h_r0_2) ?_
  refine a_getI dX6_copyFrom_26 fw_RX6_57 rfl rfl (kSta_5 h_r0_2) ?_
  refine a_istore_n dX6_copyFrom_29 rfl (Nat.le_of_ble_eq_true rfl) (ls' := [vR a0, vR a1, vI (hg H2 (a0 + 5) 0), vU]) rfl ?_
  refine a_aload_n dX6_copyFrom_30 rfl rfl ?_
  refine a_aload_n dX6_copyFrom_31 rfl rfl ?_
  refine a_getI dX6_copyFrom_32 fw_RX6_61 rfl rfl (kSta_0 h_r1_2) ?_
  refine a_putI dX6_copyFrom_35 fp_RX6_61 rfl rfl (kSta_0 h_r0_2) ?_
  have h_r0_3 := Lay.wr h_r0_2 ok_Sta (nrf_fld 2 (kSta_0 h_r0_2) (by decide) (by decide)) (i := 2) (x := (hg H2 a1 2))
  have h_r1_3 := Lay.wr h_r1_2 ok_Sta (nrf_fld 2 (kSta_0 h_r0_2) (by decide) (by decide)) (i := 2) (x := (hg H2 a1 2))
  generalize e_H3 : hs H2 a0 2 (hg H2 a1 2) = H3 at h_r0_3 h_r1_3 ⊢
  replace h := h H3 e_H3.symm
  refine a_aload_n dX6_copyFrom_38 rfl rfl ?_
  refine a_aload_n dX6_copyFrom_39 rfl rfl ?_
  refine a_getI dX6_copyFrom_40 fw_RX6_64 rfl rfl (kSta_0 h_r1_3) ?_
  refine a_putI dX6_copyFrom_43 fp_RX6_64 rfl rfl (kSta_0 h_r0_3) ?_
  have h_r0_4 := Lay.wr h_r0_3 ok_Sta (nrf_fld 8 (kSta_0 h_r0_3) (by decide) (by decide)) (i := 8) (x := (hg H3 a1 8))
  have h_r1_4 := Lay.wr h_r1_3 ok_Sta (nrf_fld 8 (kSta_0 h_r0_3) (by decide) (by decide)) (i := 8) (x := (hg H3 a1 8))
  generalize e_H4 : hs H3 a0 8 (hg H3 a1 8) = H4 at h_r0_4 h_r1_4 ⊢
  replace h := h H4 e_H4.symm
  refine a_aload_n dX6_copyFrom_46 rfl rfl ?_
  refine a_getR dX6_copyFrom_47 fw_RX6_25 rfl rfl (kSta_0 h_r1_4) (rSta_0_3 h_r1_4) ?_
  refine a_iconst dX6_copyFrom_50 ⟨by decide, by decide⟩ ?_
  refine a_aload_n dX6_copyFrom_51 rfl rfl ?_
  refine a_getR dX6_copyFrom_52 fw_RX6_25 rfl rfl (kSta_0 h_r0_4) (rSta_0_3 h_r0_4) ?_
  refine a_iconst dX6_copyFrom_55 ⟨by decide, by decide⟩ ?_
  refine a_iload_n dX6_copyFrom_56 rfl rfl ?_
  obtain ⟨q57_0, h⟩ := h
  obtain ⟨q57_2, h⟩ := h
  refine a_copyI dX6_copyFrom_57 wac_538 (kSta_14 h_r1_4) (nSta_14 h_r1_4) (kSta_14 h_r0_4) (nSta_14 h_r0_4) ⟨by decide, q57_0⟩ ⟨by decide, q57_0⟩ q57_2 (Nat.le_of_ble_eq_true rfl) (fun H5 o_H5 v_H5 => ?_)
  replace h := h H5 o_H5 v_H5
  have h_r0_5 := Lay.only h_r0_4 ok_Sta o_H5 (fun c9 i9 q9 => by rw [q9.1]; exact nrf_arr (kSta_14 h_r0_4) (by decide) (by decide))
  have h_r1_5 := Lay.only h_r1_4 ok_Sta o_H5 (fun c9 i9 q9 => by rw [q9.1]; exact nrf_arr (kSta_14 h_r0_4) (by decide) (by decide))
  refine a_aload_n dX6_copyFrom_60 rfl rfl ?_
  refine a_getR dX6_copyFrom_61 fw_RX6_29 rfl rfl (kSta_0 h_r1_5) (rSta_0_4 h_r1_5) ?_
  refine a_iconst dX6_copyFrom_64 ⟨by decide, by decide⟩ ?_
  refine a_aload_n dX6_copyFrom_65 rfl rfl ?_
  refine a_getR dX6_copyFrom_66 fw_RX6_29 rfl rfl (kSta_0 h_r0_5) (rSta_0_4 h_r0_5) ?_
  refine a_iconst dX6_copyFrom_69 ⟨by decide, by decide⟩ ?_
  refine a_iload_n dX6_copyFrom_70 rfl rfl ?_
  refine a_copyI dX6_copyFrom_71 wac_538 (kSta_15 h_r1_5) (nSta_15 h_r1_5) (kSta_15 h_r0_5) (nSta_15 h_r0_5) ⟨by decide, q57_0⟩ ⟨by decide, q57_0⟩ q57_2 (Nat.le_of_ble_eq_true rfl) (fun H6 o_H6 v_H6 => ?_)
  replace h := h H6 o_H6 v_H6
  have h_r0_6 := Lay.only h_r0_5 ok_Sta o_H6 (fun c9 i9 q9 => by rw [q9.1]; exact nrf_arr (kSta_15 h_r0_5) (by decide) (by decide))
  have h_r1_6 := Lay.only h_r1_5 ok_Sta o_H6 (fun c9 i9 q9 => by rw [q9.1]; exact nrf_arr (kSta_15 h_r0_5) (by decide) (by decide))
  refine a_aload_n dX6_copyFrom_74 rfl rfl ?_
  refine a_getR dX6_copyFrom_75 fw_RX6_32 rfl rfl (kSta_0 h_r1_6) (rSta_0_5 h_r1_6) ?_
  refine a_iconst dX6_copyFrom_78 ⟨by decide, by decide⟩ ?_
  refine a_aload_n dX6_copyFrom_79 rfl rfl ?_
  refine a_getR dX6_copyFrom_80 fw_RX6_32 rfl rfl (kSta_0 h_r0_6) (rSta_0_5 h_r0_6) ?_
  refine a_iconst dX6_copyFrom_83 ⟨by decide, by decide⟩ ?_
  refine a_iload_n dX6_copyFrom_84 rfl rfl ?_
  refine a_copyI dX6_copyFrom_85 wac_538 (kSta_16 h_r1_6) (nSta_16 h_r1_6) (kSta_16 h_r0_6) (nSta_16 h_r0_6) ⟨by decide, q57_0⟩ ⟨by decide, q57_0⟩ q57_2 (Nat.le_of_ble_eq_true rfl) (fun H7 o_H7 v_H7 => ?_)
  replace h := h H7 o_H7 v_H7
  have h_r0_7 := Lay.only h_r0_6 ok_Sta o_H7 (fun c9 i9 q9 => by rw [q9.1]; exact nrf_arr (kSta_16 h_r0_6) (by decide) (by decide))
  have h_r1_7 := Lay.only h_r1_6 ok_Sta o_H7 (fun c9 i9 q9 => by rw [q9.1]; exact nrf_arr (kSta_16 h_r0_6) (by decide) (by decide))
  refine a_aload_n dX6_copyFrom_88 rfl rfl ?_
  refine a_getR dX6_copyFrom_89 fw_RX6_35 rfl rfl (kSta_0 h_r1_7) (rSta_0_6 h_r1_7) ?_
  refine a_iconst dX6_copyFrom_92 ⟨by decide, by decide⟩ ?_
  refine a_aload_n dX6_copyFrom_93 rfl rfl ?_
  refine a_getR dX6_copyFrom_94 fw_RX6_35 rfl rfl (kSta_0 h_r0_7) (rSta_0_6 h_r0_7) ?_
  refine a_iconst dX6_copyFrom_97 ⟨by decide, by decide⟩ ?_
  refine a_iload_n dX6_copyFrom_98 rfl rfl ?_
  refine a_copyI dX6_copyFrom_99 wac_538 (kSta_17 h_r1_7) (nSta_17 h_r1_7) (kSta_17 h_r0_7) (nSta_17 h_r0_7) ⟨by decide, q57_0⟩ ⟨by decide, q57_0⟩ q57_2 (Nat.le_of_ble_eq_true rfl) (fun H8 o_H8 v_H8 => ?_)
  replace h := h H8 o_H8 v_H8
  have h_r0_8 := Lay.only h_r0_7 ok_Sta o_H8 (fun c9 i9 q9 => by rw [q9.1]; exact nrf_arr (kSta_17 h_r0_7) (by decide) (by decide))
  have h_r1_8 := Lay.only h_r1_7 ok_Sta o_H8 (fun c9 i9 q9 => by rw [q9.1]; exact nrf_arr (kSta_17 h_r0_7) (by decide) (by decide))
  refine a_aload_n dX6_copyFrom_102 rfl rfl ?_
  refine a_getR dX6_copyFrom_103 fw_RX6_38 rfl rfl (kSta_0 h_r1_8) (rSta_0_7 h_r1_8) ?_
  refine a_iconst dX6_copyFrom_106 ⟨by decide, by decide⟩ ?_
  refine a_aload_n dX6_copyFrom_107 rfl rfl ?_
  refine a_getR dX6_copyFrom_108 fw_RX6_38 rfl rfl (kSta_0 h_r0_8) (rSta_0_7 h_r0_8) ?_
  refine a_iconst dX6_copyFrom_111 ⟨by decide, by decide⟩ ?_
  refine a_aload_n dX6_copyFrom_112 rfl rfl ?_
  refine a_getI dX6_copyFrom_113 fw_RX6_64 rfl rfl (kSta_0 h_r0_8) ?_
  obtain ⟨q116_0, h⟩ := h
  obtain ⟨q116_2, h⟩ := h
  refine a_copyI dX6_copyFrom_116 wac_538 (kSta_18 h_r1_8) (nSta_18 h_r1_8) (kSta_18 h_r0_8) (nSta_18 h_r0_8) ⟨by decide, q116_0⟩ ⟨by decide, q116_0⟩ q116_2 (Nat.le_of_ble_eq_true rfl) (fun H9 o_H9 v_H9 => ?_)
  replace h := h H9 o_H9 v_H9
  have h_r0_9 := Lay.only h_r0_8 ok_Sta o_H9 (fun c9 i9 q9 => by rw [q9.1]; exact nrf_arr (kSta_18 h_r0_8) (by decide) (by decide))
  have h_r1_9 := Lay.only h_r1_8 ok_Sta o_H9 (fun c9 i9 q9 => by rw [q9.1]; exact nrf_arr (kSta_18 h_r0_8) (by decide) (by decide))
  refine a_iconst dX6_copyFrom_119 ⟨by decide, by decide⟩ ?_
  refine a_istore_n dX6_copyFrom_120 rfl (Nat.le_of_ble_eq_true rfl) (ls' := [vR a0, vR a1, vI (hg H2 (a0 + 5) 0), vI 0]) rfl ?_
  exact h

set_option maxRecDepth 20000 in
theorem s_X6_copyFrom_121 {l : Launch} {G : GT} {d : Nat} {Q : AV → AH → Prop} {H : AH} {a0 a1 x2 x3 : Int} (h_r0 : Lay LSta H a0) (h_r1 : Lay LSta H a1) (h : (3 ≤ x3 → Q vV H) ∧ (x3 < 3 → (0 ≤ x3 ∧ x3 < 3) ∧ ∀ H1 : AH, H1 = hs H (a0 + 20) x3 (hg H (a1 + 20) x3) → ((hg H1 (a1 + 21) x3) = 0 ∨ (hg H1 (a1 + 21) x3) = 1) ∧ ∀ H2 : AH, H2 = hs H1 (a0 + 21) x3 (hg H1 (a1 + 21) x3) → ∀ H3 : AH, H3 = hs H2 (a0 + 22) x3 (hg H2 (a1 + 22) x3) → (-2147483648 ≤ x3 * 24 ∧ x3 * 24 ≤ 2147483647) ∧ (0 ≤ (x3 * 24) ∧ (x3 * 24) + (hg H3 (a0 + 20) x3) ≤ 72) ∧ (0 ≤ (hg H3 (a0 + 20) x3)) ∧ ∀ H4 : AH, only H3 H4 (fun c9 i9 => c9 = (a0 + 19) ∧ (x3 * 24) ≤ i9 ∧ i9 < (x3 * 24) + (hg H3 (a0 + 20) x3)) → (∀ k9 : Int, (x3 * 24) ≤ k9 → k9 < (x3 * 24) + (hg H3 (a0 + 20) x3) → hg H4 (a0 + 19) k9 = hg H3 (a1 + 19) ((x3 * 24) + (k9 - (x3 * 24)))) → (-2147483648 ≤ x3 + 1 ∧ x3 + 1 ≤ 2147483647) ∧ AW l G mX6_copyFrom (d + 1) 0 0 Q 121 [vR a0, vR a1, vI x2, vI (x3 + 1)] [] 0 0 H4)) : AW l G mX6_copyFrom (d + 1) 0 0 Q 121 [vR a0, vR a1, vI x2, vI x3] [] 0 0 H := by
  refine a_iload_n dX6_copyFrom_121 rfl rfl ?_
  refine a_iconst dX6_copyFrom_122 ⟨by decide, by decide⟩ ?_
  refine a_icmp_ge dX6_copyFrom_123 (tgt := 193) rfl (fun c123 => ?_) (fun c123 => ?_)
  · replace h := h.1 c123
    exact a_vret dX6_copyFrom_193 rfl (Nat.le_of_ble_eq_true rfl) (Nat.le_of_ble_eq_true rfl) h
  · replace h := h.2 c123
    refine a_aload_n dX6_copyFrom_126 rfl rfl ?_
    refine a_getR dX6_copyFrom_127 fw_RX6_44 rfl rfl (kSta_0 h_r0) (rSta_0_10 h_r0) ?_
    refine a_iload_n dX6_copyFrom_130 rfl rfl ?_
    refine a_aload_n dX6_copyFrom_131 rfl rfl ?_
    refine a_getR dX6_copyFrom_132 fw_RX6_44 rfl rfl (kSta_0 h_r1) (rSta_0_10 h_r1) ?_
    refine a_iload_n dX6_copyFrom_135 rfl rfl ?_
    obtain ⟨q136_0, h⟩ := h
    refine b_iald dX6_copyFrom_136 (kSta_20 h_r1) (nSta_20 h_r1) q136_0 ?_
    refine b_iast dX6_copyFrom_137 (kSta_20 h_r0) (nSta_20 h_r0) q136_0 ?_
    have h_r0_1 := Lay.wr h_r0 ok_Sta (nrf_arr (kSta_20 h_r0) (by decide) (by decide)) (i := x3) (x := (hg H (a1 + 20) x3))
    have h_r1_1 := Lay.wr h_r1 ok_Sta (nrf_arr (kSta_20 h_r0) (by decide) (by decide)) (i := x3) (x := (hg H (a1 + 20) x3))
    generalize e_H1 : hs H (a0 + 20) x3 (hg H (a1 + 20) x3) = H1 at h_r0_1 h_r1_1 ⊢
    replace h := h H1 e_H1.symm
    refine a_aload_n dX6_copyFrom_138 rfl rfl ?_
    refine a_getR dX6_copyFrom_139 fw_RX6_47 rfl rfl (kSta_0 h_r0_1) (rSta_0_11 h_r0_1) ?_
    refine a_iload_n dX6_copyFrom_142 rfl rfl ?_
    refine a_aload_n dX6_copyFrom_143 rfl rfl ?_
    refine a_getR dX6_copyFrom_144 fw_RX6_47 rfl rfl (kSta_0 h_r1_1) (rSta_0_11 h_r1_1) ?_
    refine a_iload_n dX6_copyFrom_147 rfl rfl ?_
    refine b_zald dX6_copyFrom_148 (kSta_21 h_r1_1) (nSta_21 h_r1_1) q136_0 ?_
    obtain ⟨q149_1, h⟩ := h
    refine b_zast dX6_copyFrom_149 (kSta_21 h_r0_1) (nSta_21 h_r0_1) q136_0 q149_1 ?_
    have h_r0_2 := Lay.wr h_r0_1 ok_Sta (nrf_arr (kSta_21 h_r0_1) (by decide) (by decide)) (i := x3) (x := (hg H1 (a1 + 21) x3))
    have h_r1_2 := Lay.wr h_r1_1 ok_Sta (nrf_arr (kSta_21 h_r0_1) (by decide) (by decide)) (i := x3) (x := (hg H1 (a1 + 21) x3))
    generalize e_H2 : hs H1 (a0 + 21) x3 (hg H1 (a1 + 21) x3) = H2 at h_r0_2 h_r1_2 ⊢
    replace h := h H2 e_H2.symm
    refine a_aload_n dX6_copyFrom_150 rfl rfl ?_
    refine a_getR dX6_copyFrom_151 fw_RX6_51 rfl rfl (kSta_0 h_r0_2) (rSta_0_12 h_r0_2) ?_
    refine a_iload_n dX6_copyFrom_154 rfl rfl ?_
    refine a_aload_n dX6_copyFrom_155 rfl rfl ?_
    refine a_getR dX6_copyFrom_156 fw_RX6_51 rfl rfl (kSta_0 h_r1_2) (rSta_0_12 h_r1_2) ?_
    refine a_iload_n dX6_copyFrom_159 rfl rfl ?_
    refine b_iald dX6_copyFrom_160 (kSta_22 h_r1_2) (nSta_22 h_r1_2) q136_0 ?_
    refine b_iast dX6_copyFrom_161 (kSta_22 h_r0_2) (nSta_22 h_r0_2) q136_0 ?_
    have h_r0_3 := Lay.wr h_r0_2 ok_Sta (nrf_arr (kSta_22 h_r0_2) (by decide) (by decide)) (i := x3) (x := (hg H2 (a1 + 22) x3))
    have h_r1_3 := Lay.wr h_r1_2 ok_Sta (nrf_arr (kSta_22 h_r0_2) (by decide) (by decide)) (i := x3) (x := (hg H2 (a1 + 22) x3))
    generalize e_H3 : hs H2 (a0 + 22) x3 (hg H2 (a1 + 22) x3) = H3 at h_r0_3 h_r1_3 ⊢
    replace h := h H3 e_H3.symm
    refine a_aload_n dX6_copyFrom_162 rfl rfl ?_
    refine a_getR dX6_copyFrom_163 fw_RX6_41 rfl rfl (kSta_0 h_r1_3) (rSta_0_9 h_r1_3) ?_
    refine a_iload_n dX6_copyFrom_166 rfl rfl ?_
    refine a_bipush dX6_copyFrom_167 (by decide) ?_
    obtain ⟨q169_0, h⟩ := h
    refine a_imul dX6_copyFrom_169 q169_0 ?_
    refine a_aload_n dX6_copyFrom_170 rfl rfl ?_
    refine a_getR dX6_copyFrom_171 fw_RX6_41 rfl rfl (kSta_0 h_r0_3) (rSta_0_9 h_r0_3) ?_
    refine a_iload_n dX6_copyFrom_174 rfl rfl ?_
    refine a_bipush dX6_copyFrom_175 (by decide) ?_
    refine a_imul dX6_copyFrom_177 q169_0 ?_
    refine a_aload_n dX6_copyFrom_178 rfl rfl ?_
    refine a_getR dX6_copyFrom_179 fw_RX6_44 rfl rfl (kSta_0 h_r0_3) (rSta_0_10 h_r0_3) ?_
    refine a_iload_n dX6_copyFrom_182 rfl rfl ?_
    refine b_iald dX6_copyFrom_183 (kSta_20 h_r0_3) (nSta_20 h_r0_3) q136_0 ?_
    obtain ⟨q184_0, h⟩ := h
    obtain ⟨q184_2, h⟩ := h
    refine a_copyI dX6_copyFrom_184 wac_538 (kSta_19 h_r1_3) (nSta_19 h_r1_3) (kSta_19 h_r0_3) (nSta_19 h_r0_3) q184_0 q184_0 q184_2 (Nat.le_of_ble_eq_true rfl) (fun H4 o_H4 v_H4 => ?_)
    replace h := h H4 o_H4 v_H4
    have h_r0_4 := Lay.only h_r0_3 ok_Sta o_H4 (fun c9 i9 q9 => by rw [q9.1]; exact nrf_arr (kSta_19 h_r0_3) (by decide) (by decide))
    have h_r1_4 := Lay.only h_r1_3 ok_Sta o_H4 (fun c9 i9 q9 => by rw [q9.1]; exact nrf_arr (kSta_19 h_r0_3) (by decide) (by decide))
    obtain ⟨q187_0, h⟩ := h
    refine a_iinc dX6_copyFrom_187 rfl (Nat.le_of_ble_eq_true rfl) (by decide) q187_0 (ls' := [vR a0, vR a1, vI x2, vI (x3 + 1)]) rfl ?_
    refine a_goto dX6_copyFrom_190 (tgt := 121) rfl ?_
    exact h


