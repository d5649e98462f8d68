theorem dX7_advance_0 : decode cX7_advance 0 = .ok (.iload_n 1, 1) := by decide +kernel
theorem dX7_advance_1 : decode cX7_advance 1 = .ok (.invokestatic 138, 3) := by decide +kernel
theorem dX7_advance_4 : decode cX7_advance 4 = .ok (.aload_n 0, 1) := by decide +kernel
theorem dX7_advance_5 : decode cX7_advance 5 = .ok (.getfield 26, 3) := by decide +kernel
theorem dX7_advance_8 : decode cX7_advance 8 = .ok (.getfield 135, 3) := by decide +kernel
theorem dX7_advance_11 : decode cX7_advance 11 = .ok (.ldc 141, 2) := by decide +kernel
theorem dX7_advance_13 : decode cX7_advance 13 = .ok (.iload_n 1, 1) := by decide +kernel
theorem dX7_advance_14 : decode cX7_advance 14 = .ok (.isub, 1) := by decide +kernel
theorem dX7_advance_15 : decode cX7_advance 15 = .ok (.if_icmp .le 6, 3) := by decide +kernel
theorem dX7_advance_18 : decode cX7_advance 18 = .ok (.bipush (-2), 2) := by decide +kernel
theorem dX7_advance_20 : decode cX7_advance 20 = .ok (.ireturn, 1) := by decide +kernel
theorem dX7_advance_21 : decode cX7_advance 21 = .ok (.aload_n 0, 1) := by decide +kernel
theorem dX7_advance_22 : decode cX7_advance 22 = .ok (.getfield 19, 3) := by decide +kernel
theorem dX7_advance_25 : decode cX7_advance 25 = .ok (.aload_n 0, 1) := by decide +kernel
theorem dX7_advance_26 : decode cX7_advance 26 = .ok (.getfield 26, 3) := by decide +kernel
theorem dX7_advance_29 : decode cX7_advance 29 = .ok (.aload_n 0, 1) := by decide +kernel
theorem dX7_advance_30 : decode cX7_advance 30 = .ok (.getfield 26, 3) := by decide +kernel
theorem dX7_advance_33 : decode cX7_advance 33 = .ok (.getfield 135, 3) := by decide +kernel
theorem dX7_advance_36 : decode cX7_advance 36 = .ok (.iload_n 1, 1) := by decide +kernel
theorem dX7_advance_37 : decode cX7_advance 37 = .ok (.iadd, 1) := by decide +kernel
theorem dX7_advance_38 : decode cX7_advance 38 = .ok (.invokevirtual 142, 3) := by decide +kernel
theorem dX7_advance_41 : decode cX7_advance 41 = .ok (.ireturn, 1) := by decide +kernel
set_option maxRecDepth 20000 in
theorem s_X7_advance_0 {l : Launch} {G : GT} {d : Nat} {Q : AV → AH → Prop} {H : AH} {a0 x1 : Int} (hG : GX l G) {M : Row} (hS : SK H (a0 + 20) M) (h_r0 : Lay LRun H a0) (h : (¬ (1 ≤ x1 ∧ x1 ≤ 7200) → Q (vT 0) H) ∧ (1 ≤ x1 ∧ x1 ≤ 7200 → (-2147483648 ≤ 200000 - x1 ∧ 200000 - x1 ≤ 2147483647) ∧ ((M 0) ≤ (200000 - x1) → (-2147483648 ≤ (M 0) + x1 ∧ (M 0) + x1 ≤ 2147483647) ∧ CL l G mX2_pass d 0 0 [vR (a0 + 3), vR (a0 + 20), vI ((M 0) + x1)] H (fun r9 H1 => ∃ M1 : Row, Lay LRun H1 a0 ∧ SK H1 (a0 + 20) M1 ∧ ∃ y1 : Int, r9 = vI y1 ∧ Q (vI y1) H1)) ∧ ((200000 - x1) < (M 0) → Q (vI (-2)) H))) (hd : 6 ≤ d := by omega) : AW l G mX7_advance (d + 1) 4 24 Q 0 [vR a0, vI x1] [] 0 0 H := by
  refine a_iload_n dX7_advance_0 rfl rfl ?_
  refine a_callS dX7_advance_1 cw_X7_advance_1 (as := [vI x1]) rfl rfl (Nat.le_refl _) (Nat.le_of_ble_eq_true rfl) (nocov rfl) (Nat.le_of_ble_eq_true rfl) (Nat.le_of_ble_eq_true rfl) (CL.mono (k_checkSeconds hG) (fun r9 H9 h9 => ?_))
  obtain ⟨h8, h9⟩ := h9
  rw [h8]
  rcases h9 with ⟨c1, e9⟩ | ⟨c1, e9⟩
  · rw [e9]; exact h.1 c1
  rw [e9]
  replace h := h.2 c1
  show AW l G mX7_advance (d + 1) 4 24 Q 4 [vR a0, vI x1] [] 1 6 H
  refine a_aload_n dX7_advance_4 rfl rfl ?_
  refine a_getR dX7_advance_5 fw_RX7_26 rfl rfl (kRun_0 h_r0) (rRun_0_2 h_r0) ?_
  refine a_getIV dX7_advance_8 fw_RX7_135 rfl rfl (kRun_20 h_r0) (sko (by omega) (sk_0_2 hS)) ?_
  refine a_ldc dX7_advance_11 (w_867) ?_
  show AW l G mX7_advance (d + 1) 4 24 Q 13 [vR a0, vI x1] [vI 200000, vI (M 0)] 1 6 H
  refine a_iload_n dX7_advance_13 rfl rfl ?_
  obtain ⟨q14_0, h⟩ := h
  refine a_isub dX7_advance_14 q14_0 ?_
  refine a_icmp_le dX7_advance_15 (tgt := 21) rfl (fun c15 => ?_) (fun c15 => ?_)
  · replace h := h.1 c15
    refine a_aload_n dX7_advance_21 rfl rfl ?_
    refine a_getR dX7_advance_22 fw_RX7_19 rfl rfl (kRun_0 h_r0) (rRun_0_1 h_r0) ?_
    refine a_aload_n dX7_advance_25 rfl rfl ?_
    refine a_getR dX7_advance_26 fw_RX7_26 rfl rfl (kRun_0 h_r0) (rRun_0_2 h_r0) ?_
    refine a_aload_n dX7_advance_29 rfl rfl ?_
    refine a_getR dX7_advance_30 fw_RX7_26 rfl rfl (kRun_0 h_r0) (rRun_0_2 h_r0) ?_
    refine a_getIV dX7_advance_33 fw_RX7_135 rfl rfl (kRun_20 h_r0) (sko (by omega) (sk_0_2 hS)) ?_
    refine a_iload_n dX7_advance_36 rfl rfl ?_
    obtain ⟨q37_0, h⟩ := h
    refine a_iadd dX7_advance_37 q37_0 ?_
    refine a_callV dX7_advance_38 cw_X7_advance_38 (as := [vR (a0 + 20), vI ((M 0) + x1)]) rfl rfl (kRun_3 h_r0) (Nat.le_refl _) (Nat.le_of_ble_eq_true rfl) (nocov rfl) (Nat.le_of_ble_eq_true rfl) (Nat.le_of_ble_eq_true rfl) (CL.mono h (fun r9 H1 h => ?_))
    obtain ⟨M1, h_r0_1, hSr0_20_1, y1, e9, h⟩ := h
    rw [e9]
    show AW l G mX7_advance (d + 1) 4 24 Q 41 [vR a0, vI x1] [vI y1] 1 6 H1
    exact a_iret dX7_advance_41 rfl (Nat.le_of_ble_eq_true rfl) (Nat.le_of_ble_eq_true rfl) h
  · replace h := h.2 c15
    refine a_bipush dX7_advance_18 (by decide) ?_
    exact a_iret dX7_advance_20 rfl (Nat.le_of_ble_eq_true rfl) (Nat.le_of_ble_eq_true rfl) h


theorem dX7_setShift_0 : decode cX7_setShift 0 = .ok (.iload_n 1, 1) := by decide +kernel
theorem dX7_setShift_1 : decode cX7_setShift 1 = .ok (.invokestatic 149, 3) := by decide +kernel
theorem dX7_setShift_4 : decode cX7_setShift 4 = .ok (.aload_n 0, 1) := by decide +kernel
theorem dX7_setShift_5 : decode cX7_setShift 5 = .ok (.getfield 26, 3) := by decide +kernel
theorem dX7_setShift_8 : decode cX7_setShift 8 = .ok (.getfield 90, 3) := by decide +kernel
theorem dX7_setShift_11 : decode cX7_setShift 11 = .ok (.getfield 146, 3) := by decide +kernel
theorem dX7_setShift_14 : decode cX7_setShift 14 = .ok (.istore_n 2, 1) := by decide +kernel
theorem dX7_setShift_15 : decode cX7_setShift 15 = .ok (.aload_n 0, 1) := by decide +kernel
theorem dX7_setShift_16 : decode cX7_setShift 16 = .ok (.getfield 26, 3) := by decide +kernel
theorem dX7_setShift_19 : decode cX7_setShift 19 = .ok (.getfield 90, 3) := by decide +kernel
theorem dX7_setShift_22 : decode cX7_setShift 22 = .ok (.iload_n 1, 1) := by decide +kernel
theorem dX7_setShift_23 : decode cX7_setShift 23 = .ok (.putfield 146, 3) := by decide +kernel
theorem dX7_setShift_26 : decode cX7_setShift 26 = .ok (.aload_n 0, 1) := by decide +kernel
theorem dX7_setShift_27 : decode cX7_setShift 27 = .ok (.getfield 26, 3) := by decide +kernel
theorem dX7_setShift_30 : decode cX7_setShift 30 = .ok (.invokevirtual 152, 3) := by decide +kernel
theorem dX7_setShift_33 : decode cX7_setShift 33 = .ok (.iload_n 2, 1) := by decide +kernel
theorem dX7_setShift_34 : decode cX7_setShift 34 = .ok (.ireturn, 1) := by decide +kernel
set_option maxRecDepth 20000 in
theorem s_X7_setShift_0 {l : Launch} {G : GT} {d : Nat} {Q : AV → AH → Prop} {H : AH} {a0 x1 : Int} (hG : GX l G) {M : Row} (hS : SK H (a0 + 20) M) (h_r0 : Lay LRun H a0) (h : (¬ (0 ≤ x1 ∧ x1 ≤ 4) → Q (vT 0) H) ∧ (0 ≤ x1 ∧ x1 ≤ 4 → ∀ H1 : AH, H1 = hs H (a0 + 21) 2 x1 → CL l G mX6_forgetPlans d 0 0 [vR (a0 + 20)] H1 (fun r9 H2 => ∃ M2 : Row, Lay LRun H2 a0 ∧ SK H2 (a0 + 20) M2 ∧ r9 = vV ∧ Q (vI (M 1)) H2))) (hd : 6 ≤ d := by omega) : AW l G mX7_setShift (d + 1) 4 24 Q 0 [vR a0, vI x1, vU] [] 0 0 H := by
  refine a_iload_n dX7_setShift_0 rfl rfl ?_
  refine a_callS dX7_setShift_1 cw_X7_setShift_1 (as := [vI x1]) rfl rfl (Nat.le_refl _) (Nat.le_of_ble_eq_true rfl) (nocov rfl) (Nat.le_of_ble_eq_true rfl) (Nat.le_of_ble_eq_true rfl) (CL.mono (k_checkShift hG) (fun r9 H9 h9 => ?_))
  obtain ⟨h8, h9⟩ := h9
  rw [h8]
  rcases h9 with ⟨c1, e9⟩ | ⟨c1, e9⟩
  · rw [e9]; exact h.1 c1
  rw [e9]
  replace h := h.2 c1
  show AW l G mX7_setShift (d + 1) 4 24 Q 4 [vR a0, vI x1, vU] [] 1 6 H
  refine a_aload_n dX7_setShift_4 rfl rfl ?_
  refine a_getR dX7_setShift_5 fw_RX7_26 rfl rfl (kRun_0 h_r0) (rRun_0_2 h_r0) ?_
  refine a_getR dX7_setShift_8 fw_RX7_90 rfl rfl (kRun_20 h_r0) (rRun_20_0 h_r0) ?_
  refine a_getIV dX7_setShift_11 fw_RX7_146 rfl rfl (kRun_21 h_r0) (sko (by omega) (sk_1_2 hS)) ?_
  refine a_istore_n dX7_setShift_14 rfl (Nat.le_of_ble_eq_true rfl) (ls' := [vR a0, vI x1, vI (M 1)]) rfl ?_
  refine a_aload_n dX7_setShift_15 rfl rfl ?_
  refine a_getR dX7_setShift_16 fw_RX7_26 rfl rfl (kRun_0 h_r0) (rRun_0_2 h_r0) ?_
  refine a_getR dX7_setShift_19 fw_RX7_90 rfl rfl (kRun_20 h_r0) (rRun_20_0 h_r0) ?_
  refine a_iload_n dX7_setShift_22 rfl rfl ?_
  refine a_putI dX7_setShift_23 fp_RX7_146 rfl rfl (kRun_21 h_r0) ?_
  have h_r0_1 := Lay.wr h_r0 ok_Run (nrf_fld 2 (kRun_21 h_r0) (by decide) (by decide)) (i := 2) (x := x1)
  generalize e_H1 : hs H (a0 + 21) 2 x1 = H1 at h_r0_1 ⊢
  replace h := h H1 e_H1.symm
  refine a_aload_n dX7_setShift_26 rfl rfl ?_
  refine a_getR dX7_setShift_27 fw_RX7_26 rfl rfl (kRun_0 h_r0_1) (rRun_0_2 h_r0_1) ?_
  refine a_callV dX7_setShift_30 cw_X7_setShift_30 (as := []) rfl rfl (kRun_20 h_r0_1) (Nat.le_refl _) (Nat.le_of_ble_eq_true rfl) (nocov rfl) (Nat.le_of_ble_eq_true rfl) (Nat.le_of_ble_eq_true rfl) (CL.mono h (fun r9 H2 h => ?_))
  obtain ⟨M2, h_r0_2, hSr0_20_2, e9, h⟩ := h
  rw [e9]
  show AW l G mX7_setShift (d + 1) 4 24 Q 33 [vR a0, vI x1, vI (M 1)] [] 1 6 H2
  refine a_iload_n dX7_setShift_33 rfl rfl ?_
  exact a_iret dX7_setShift_34 rfl (Nat.le_of_ble_eq_true rfl) (Nat.le_of_ble_eq_true rfl) h


theorem dX7_setWake_0 : decode cX7_setWake 0 = .ok (.iload_n 1, 1) := by decide +kernel
theorem dX7_setWake_1 : decode cX7_setWake 1 = .ok (.invokestatic 125, 3) := by decide +kernel
theorem dX7_setWake_4 : decode cX7_setWake 4 = .ok (.iload_n 2, 1) := by decide +kernel
theorem dX7_setWake_5 : decode cX7_setWake 5 = .ok (.invokestatic 125, 3) := by decide +kernel
theorem dX7_setWake_8 : decode cX7_setWake 8 = .ok (.iload_n 3, 1) := by decide +kernel
theorem dX7_setWake_9 : decode cX7_setWake 9 = .ok (.ifCond .lt 10, 3) := by decide +kernel
theorem dX7_setWake_12 : decode cX7_setWake 12 = .ok (.iload_n 3, 1) := by decide +kernel
theorem dX7_setWake_13 : decode cX7_setWake 13 = .ok (.sipush 600, 3) := by decide +kernel
theorem dX7_setWake_16 : decode cX7_setWake 16 = .ok (.if_icmp .le 13, 3) := by decide +kernel
theorem dX7_setWake_19 : decode cX7_setWake 19 = .ok (.new 44, 3) := by decide +kernel
theorem dX7_setWake_22 : decode cX7_setWake 22 = .ok (.dup, 1) := by decide +kernel
theorem dX7_setWake_23 : decode cX7_setWake 23 = .ok (.ldc 155, 2) := by decide +kernel
theorem dX7_setWake_25 : decode cX7_setWake 25 = .ok (.invokespecial 48, 3) := by decide +kernel
theorem dX7_setWake_28 : decode cX7_setWake 28 = .ok (.athrow, 1) := by decide +kernel
theorem dX7_setWake_29 : decode cX7_setWake 29 = .ok (.iload_n 1, 1) := by decide +kernel
theorem dX7_setWake_30 : decode cX7_setWake 30 = .ok (.iconst 4, 1) := by decide +kernel
theorem dX7_setWake_31 : decode cX7_setWake 31 = .ok (.imul, 1) := by decide +kernel
theorem dX7_setWake_32 : decode cX7_setWake 32 = .ok (.iload_n 2, 1) := by decide +kernel
theorem dX7_setWake_33 : decode cX7_setWake 33 = .ok (.iadd, 1) := by decide +kernel
theorem dX7_setWake_34 : decode cX7_setWake 34 = .ok (.istore 4, 2) := by decide +kernel
theorem dX7_setWake_36 : decode cX7_setWake 36 = .ok (.aload_n 0, 1) := by decide +kernel
theorem dX7_setWake_37 : decode cX7_setWake 37 = .ok (.getfield 26, 3) := by decide +kernel
theorem dX7_setWake_40 : decode cX7_setWake 40 = .ok (.getfield 90, 3) := by decide +kernel
theorem dX7_setWake_43 : decode cX7_setWake 43 = .ok (.getfield 128, 3) := by decide +kernel
theorem dX7_setWake_46 : decode cX7_setWake 46 = .ok (.iload 4, 2) := by decide +kernel
theorem dX7_setWake_48 : decode cX7_setWake 48 = .ok (.iaload, 1) := by decide +kernel
theorem dX7_setWake_49 : decode cX7_setWake 49 = .ok (.istore 5, 2) := by decide +kernel
theorem dX7_setWake_51 : decode cX7_setWake 51 = .ok (.aload_n 0, 1) := by decide +kernel
theorem dX7_setWake_52 : decode cX7_setWake 52 = .ok (.getfield 26, 3) := by decide +kernel
theorem dX7_setWake_55 : decode cX7_setWake 55 = .ok (.getfield 90, 3) := by decide +kernel
theorem dX7_setWake_58 : decode cX7_setWake 58 = .ok (.getfield 128, 3) := by decide +kernel
theorem dX7_setWake_61 : decode cX7_setWake 61 = .ok (.iload 4, 2) := by decide +kernel
theorem dX7_setWake_63 : decode cX7_setWake 63 = .ok (.iload_n 3, 1) := by decide +kernel
theorem dX7_setWake_64 : decode cX7_setWake 64 = .ok (.iastore, 1) := by decide +kernel
theorem dX7_setWake_65 : decode cX7_setWake 65 = .ok (.aload_n 0, 1) := by decide +kernel
theorem dX7_setWake_66 : decode cX7_setWake 66 = .ok (.getfield 26, 3) := by decide +kernel
theorem dX7_setWake_69 : decode cX7_setWake 69 = .ok (.invokevirtual 152, 3) := by decide +kernel
theorem dX7_setWake_72 : decode cX7_setWake 72 = .ok (.iload 5, 2) := by decide +kernel
theorem dX7_setWake_74 : decode cX7_setWake 74 = .ok (.ireturn, 1) := by decide +kernel
set_option maxRecDepth 20000 in
theorem s_X7_setWake_0 {l : Launch} {G : GT} {d : Nat} {Q : AV → AH → Prop} {H : AH} {a0 x1 x2 x3 : Int} (hG : GX l G) {M : Row} (hS : SK H (a0 + 20) M) (h_r0 : Lay LRun H a0) (h : (¬ (0 ≤ x1 ∧ x1 ≤ 3) → Q (vT 0) H) ∧ (0 ≤ x1 ∧ x1 ≤ 3 → (¬ (0 ≤ x2 ∧ x2 ≤ 3) → Q (vT 0) H) ∧ (0 ≤ x2 ∧ x2 ≤ 3 → (x3 < 0 → Q (vT 0) H) ∧ (0 ≤ x3 → (x3 ≤ 600 → (-2147483648 ≤ x1 * 4 ∧ x1 * 4 ≤ 2147483647) ∧ (-2147483648 ≤ (x1 * 4) + x2 ∧ (x1 * 4) + x2 ≤ 2147483647) ∧ (0 ≤ ((x1 * 4) + x2) ∧ ((x1 * 4) + x2) < 16) ∧ ∀ H1 : AH, H1 = hs H (a0 + 22) ((x1 * 4) + x2) x3 → CL l G mX6_forgetPlans d 0 0 [vR (a0 + 20)] H1 (fun r9 H2 => ∃ M2 : Row, Lay LRun H2 a0 ∧ SK H2 (a0 + 20) M2 ∧ r9 = vV ∧ Q (vI (M (8 + ((x1 * 4) + x2)))) H2)) ∧ (600 < x3 → Q (vT 0) H))))) (hd : 6 ≤ d := by omega) : AW l G mX7_setWake (d + 1) 4 24 Q 0 [vR a0, vI x1, vI x2, vI x3, vU, vU] [] 0 0 H := by
  refine a_iload_n dX7_setWake_0 rfl rfl ?_
  refine a_callS dX7_setWake_1 cw_X7_setWake_1 (as := [vI x1]) rfl rfl (Nat.le_refl _) (Nat.le_of_ble_eq_true rfl) (nocov rfl) (Nat.le_of_ble_eq_true rfl) (Nat.le_of_ble_eq_true rfl) (CL.mono (k_checkClass hG) (fun r9 H9 h9 => ?_))
  obtain ⟨h8, h9⟩ := h9
  rw [h8]
  rcases h9 with ⟨c1, e9⟩ | ⟨c1, e9⟩
  · rw [e9]; exact h.1 c1
  rw [e9]
  replace h := h.2 c1
  show AW l G mX7_setWake (d + 1) 4 24 Q 4 [vR a0, vI x1, vI x2, vI x3, vU, vU] [] 1 6 H
  refine a_iload_n dX7_setWake_4 rfl rfl ?_
  refine a_callS dX7_setWake_5 cw_X7_setWake_5 (as := [vI x2]) rfl rfl (Nat.le_refl _) (Nat.le_of_ble_eq_true rfl) (nocov rfl) (Nat.le_of_ble_eq_true rfl) (Nat.le_of_ble_eq_true rfl) (CL.mono (k_checkClass hG) (fun r9 H9 h9 => ?_))
  obtain ⟨h8, h9⟩ := h9
  rw [h8]
  rcases h9 with ⟨c5, e9⟩ | ⟨c5, e9⟩
  · rw [e9]; exact h.1 c5
  rw [e9]
  replace h := h.2 c5
  show AW l G mX7_setWake (d + 1) 4 24 Q 8 [vR a0, vI x1, vI x2, vI x3, vU, vU] [] 2 12 H
  refine a_iload_n dX7_setWake_8 rfl rfl ?_
  refine a_if_lt dX7_setWake_9 (tgt := 19) rfl (fun c9 => ?_) (fun c9 => ?_)
  · replace h := h.1 c9
    exact a_thrS 0 hG dX7_setWake_19 dX7_setWake_22 dX7_setWake_23 dX7_setWake_25 dX7_setWake_28 rfl rfl (by unfold exK; decide) (text := "a separation is 0 to 600") (by decide) (Nat.le_of_ble_eq_true rfl) (by omega) (Nat.le_of_ble_eq_true rfl) (Nat.le_of_ble_eq_true rfl) h
  · replace h := h.2 c9
    refine a_iload_n dX7_setWake_12 rfl rfl ?_
    refine a_sipush dX7_setWake_13 (by decide) ?_
    refine a_icmp_le dX7_setWake_16 (tgt := 29) rfl (fun c16 => ?_) (fun c16 => ?_)
    · replace h := h.1 c16
      refine a_iload_n dX7_setWake_29 rfl rfl ?_
      refine a_iconst dX7_setWake_30 ⟨by decide, by decide⟩ ?_
      obtain ⟨q31_0, h⟩ := h
      refine a_imul dX7_setWake_31 q31_0 ?_
      refine a_iload_n dX7_setWake_32 rfl rfl ?_
      obtain ⟨q33_0, h⟩ := h
      refine a_iadd dX7_setWake_33 q33_0 ?_
      refine a_istore dX7_setWake_34 (Nat.le_of_ble_eq_true rfl) (ls' := [vR a0, vI x1, vI x2, vI x3, vI ((x1 * 4) + x2), vU]) rfl ?_
      refine a_aload_n dX7_setWake_36 rfl rfl ?_
      refine a_getR dX7_setWake_37 fw_RX7_26 rfl rfl (kRun_0 h_r0) (rRun_0_2 h_r0) ?_
      refine a_getR dX7_setWake_40 fw_RX7_90 rfl rfl (kRun_20 h_r0) (rRun_20_0 h_r0) ?_
      refine a_getR dX7_setWake_43 fw_RX7_128 rfl rfl (kRun_21 h_r0) (rRun_21_5 h_r0) ?_
      refine a_iload dX7_setWake_46 rfl ?_
      obtain ⟨q48_0, h⟩ := h
      refine b_ialdV dX7_setWake_48 (kRun_22 h_r0) (nRun_22 h_r0) q48_0 (sko (by omega) (sk_2 hS q48_0)) ?_
      refine a_istore dX7_setWake_49 (Nat.le_of_ble_eq_true rfl) (ls' := [vR a0, vI x1, vI x2, vI x3, vI ((x1 * 4) + x2), vI (M (8 + ((x1 * 4) + x2)))]) rfl ?_
      refine a_aload_n dX7_setWake_51 rfl rfl ?_
      refine a_getR dX7_setWake_52 fw_RX7_26 rfl rfl (kRun_0 h_r0) (rRun_0_2 h_r0) ?_
      refine a_getR dX7_setWake_55 fw_RX7_90 rfl rfl (kRun_20 h_r0) (rRun_20_0 h_r0) ?_
      refine a_getR dX7_setWake_58 fw_RX7_128 rfl rfl (kRun_21 h_r0) (rRun_21_5 h_r0) ?_
      refine a_iload dX7_setWake_61 rfl ?_
      refine a_iload_n dX7_setWake_63 rfl rfl ?_
      refine b_iast dX7_setWake_64 (kRun_22 h_r0) (nRun_22 h_r0) q48_0 ?_
      have h_r0_1 := Lay.wr h_r0 ok_Run (nrf_arr (kRun_22 h_r0) (by decide) (by decide)) (i := ((x1 * 4) + x2)) (x := x3)
      generalize e_H1 : hs H (a0 + 22) ((x1 * 4) + x2) x3 = H1 at h_r0_1 ⊢
      replace h := h H1 e_H1.symm
      refine a_aload_n dX7_setWake_65 rfl rfl ?_
      refine a_getR dX7_setWake_66 fw_RX7_26 rfl rfl (kRun_0 h_r0_1) (rRun_0_2 h_r0_1) ?_
      refine a_callV dX7_setWake_69 cw_X7_setWake_69 (as := []) rfl rfl (kRun_20 h_r0_1) (Nat.le_refl _) (Nat.le_of_ble_eq_true rfl) (nocov rfl) (Nat.le_of_ble_eq_true rfl) (Nat.le_of_ble_eq_true rfl) (CL.mono h (fun r9 H2 h => ?_))
      obtain ⟨M2, h_r0_2, hSr0_20_2, e9, h⟩ := h
      rw [e9]
      show AW l G mX7_setWake (d + 1) 4 24 Q 72 [vR a0, vI x1, vI x2, vI x3, vI ((x1 * 4) + x2), vI (M (8 + ((x1 * 4) + x2)))] [] 2 12 H2
      refine a_iload dX7_setWake_72 rfl ?_
      exact a_iret dX7_setWake_74 rfl (Nat.le_of_ble_eq_true rfl) (Nat.le_of_ble_eq_true rfl) h
    · replace h := h.2 c16
      exact a_thrS 0 hG dX7_setWake_19 dX7_setWake_22 dX7_setWake_23 dX7_setWake_25 dX7_setWake_28 rfl rfl (by unfold exK; decide) (text := "a separation is 0 to 600") (by decide) (Nat.le_of_ble_eq_true rfl) (by omega) (Nat.le_of_ble_eq_true rfl) (Nat.le_of_ble_eq_true rfl) h


theorem dX7_assign_0 : decode cX7_assign 0 = .ok (.aload_n 0, 1) := by decide +kernel
theorem dX7_assign_1 : decode cX7_assign 1 = .ok (.iload_n 1, 1) := by decide +kernel
theorem dX7_assign_2 : decode cX7_assign 2 = .ok (.invokevirtual 99, 3) := by decide +kernel
theorem dX7_assign_5 : decode cX7_assign 5 = .ok (.aload_n 0, 1) := by decide +kernel
theorem dX7_assign_6 : decode cX7_assign 6 = .ok (.iload_n 2, 1) := by decide +kernel
theorem dX7_assign_7 : decode cX7_assign 7 = .ok (.invokevirtual 160, 3) := by decide +kernel
theorem dX7_assign_10 : decode cX7_assign 10 = .ok (.aload_n 0, 1) := by decide +kernel
theorem dX7_assign_11 : decode cX7_assign 11 = .ok (.iload_n 1, 1) := by decide +kernel
theorem dX7_assign_12 : decode cX7_assign 12 = .ok (.iload_n 2, 1) := by decide +kernel
theorem dX7_assign_13 : decode cX7_assign 13 = .ok (.invokevirtual 163, 3) := by decide +kernel
theorem dX7_assign_16 : decode cX7_assign 16 = .ok (.istore_n 3, 1) := by decide +kernel
theorem dX7_assign_17 : decode cX7_assign 17 = .ok (.iload_n 3, 1) := by decide +kernel
theorem dX7_assign_18 : decode cX7_assign 18 = .ok (.ifCond .eq 5, 3) := by decide +kernel
theorem dX7_assign_21 : decode cX7_assign 21 = .ok (.iload_n 3, 1) := by decide +kernel
theorem dX7_assign_22 : decode cX7_assign 22 = .ok (.ireturn, 1) := by decide +kernel
theorem dX7_assign_23 : decode cX7_assign 23 = .ok (.aload_n 0, 1) := by decide +kernel
theorem dX7_assign_24 : decode cX7_assign 24 = .ok (.getfield 26, 3) := by decide +kernel
theorem dX7_assign_27 : decode cX7_assign 27 = .ok (.getfield 157, 3) := by decide +kernel
theorem dX7_assign_30 : decode cX7_assign 30 = .ok (.iload_n 1, 1) := by decide +kernel
theorem dX7_assign_31 : decode cX7_assign 31 = .ok (.iaload, 1) := by decide +kernel
theorem dX7_assign_32 : decode cX7_assign 32 = .ok (.istore 4, 2) := by decide +kernel
theorem dX7_assign_34 : decode cX7_assign 34 = .ok (.aload_n 0, 1) := by decide +kernel
theorem dX7_assign_35 : decode cX7_assign 35 = .ok (.getfield 26, 3) := by decide +kernel
theorem dX7_assign_38 : decode cX7_assign 38 = .ok (.iload_n 1, 1) := by decide +kernel
theorem dX7_assign_39 : decode cX7_assign 39 = .ok (.iload_n 2, 1) := by decide +kernel
theorem dX7_assign_40 : decode cX7_assign 40 = .ok (.invokevirtual 166, 3) := by decide +kernel
theorem dX7_assign_43 : decode cX7_assign 43 = .ok (.iload 4, 2) := by decide +kernel
theorem dX7_assign_45 : decode cX7_assign 45 = .ok (.ireturn, 1) := by decide +kernel
set_option maxRecDepth 20000 in
theorem s_X7_assign_0 {l : Launch} {G : GT} {d : Nat} {Q : AV → AH → Prop} {H : AH} {a0 x1 x2 : Int} (hG : GX l G) {M : Row} (hS : SK H (a0 + 20) M) (h_r0 : Lay LRun H a0) (h : (¬ (fl M x1) → Q (vT 1) H) ∧ (fl M x1 → (¬ (rl M x2) → Q (vT 1) H) ∧ (rl M x2 → (fl M x1) ∧ (0 ≤ x2 ∧ x2 < 3) ∧ ((refuM M x1 x2) = 0 → (0 ≤ x1 ∧ x1 < M 6) ∧ CL l G mX6_moveTo d 0 0 [vR (a0 + 20), vI x1, vI x2] H (fun r9 H1 => ∃ M1 : Row, Lay LRun H1 a0 ∧ SK H1 (a0 + 20) M1 ∧ r9 = vV ∧ Q (vI (ofM M x1 6)) H1)) ∧ (¬ (refuM M x1 x2) = 0 → Q (vI (refuM M x1 x2)) H)))) (hd : 6 ≤ d := by omega) : AW l G mX7_assign (d + 1) 4 24 Q 0 [vR a0, vI x1, vI x2, vU, vU] [] 0 0 H := by
  refine a_aload_n dX7_assign_0 rfl rfl ?_
  refine a_iload_n dX7_assign_1 rfl rfl ?_
  refine a_callV dX7_assign_2 cw_X7_assign_2 (as := [vI x1]) rfl rfl (kRun_0 h_r0) (Nat.le_refl _) (Nat.le_of_ble_eq_true rfl) (nocov rfl) (Nat.le_of_ble_eq_true rfl) (Nat.le_of_ble_eq_true rfl) (CL.mono (k_checkFlight hG h_r0 hS) (fun r9 H9 h9 => ?_))
  obtain ⟨h8, h9⟩ := h9
  rw [h8]
  rcases h9 with ⟨c2, e9⟩ | ⟨c2, e9⟩
  · rw [e9]; exact h.1 c2
  rw [e9]
  replace h := h.2 c2
  show AW l G mX7_assign (d + 1) 4 24 Q 5 [vR a0, vI x1, vI x2, vU, vU] [] 1 6 H
  refine a_aload_n dX7_assign_5 rfl rfl ?_
  refine a_iload_n dX7_assign_6 rfl rfl ?_
  refine a_callV dX7_assign_7 cw_X7_assign_7 (as := [vI x2]) rfl rfl (kRun_0 h_r0) (Nat.le_refl _) (Nat.le_of_ble_eq_true rfl) (nocov rfl) (Nat.le_of_ble_eq_true rfl) (Nat.le_of_ble_eq_true rfl) (CL.mono (k_checkRunway hG h_r0 hS) (fun r9 H9 h9 => ?_))
  obtain ⟨h8, h9⟩ := h9
  rw [h8]
  rcases h9 with ⟨c7, e9⟩ | ⟨c7, e9⟩
  · rw [e9]; exact h.1 c7
  rw [e9]
  replace h := h.2 c7
  show AW l G mX7_assign (d + 1) 4 24 Q 10 [vR a0, vI x1, vI x2, vU, vU] [] 2 12 H
  refine a_aload_n dX7_assign_10 rfl rfl ?_
  refine a_iload_n dX7_assign_11 rfl rfl ?_
  refine a_iload_n dX7_assign_12 rfl rfl ?_
  obtain ⟨q13_0, h⟩ := h
  obtain ⟨q13_1, h⟩ := h
  refine a_callV dX7_assign_13 cw_X7_assign_13 (as := [vI x1, vI x2]) rfl rfl (kRun_0 h_r0) (Nat.le_refl _) (Nat.le_of_ble_eq_true rfl) (nocov rfl) (Nat.le_of_ble_eq_true rfl) (Nat.le_of_ble_eq_true rfl) (CL.mono (k_errorOfMove hS h_r0 q13_0 q13_1) (fun r9 H9 h9 => ?_))
  rw [h9.1, h9.2]
  show AW l G mX7_assign (d + 1) 4 24 Q 16 [vR a0, vI x1, vI x2, vU, vU] [vI (refuM M x1 x2)] 2 12 H
  refine a_istore_n dX7_assign_16 rfl (Nat.le_of_ble_eq_true rfl) (ls' := [vR a0, vI x1, vI x2, vI (refuM M x1 x2), vU]) rfl ?_
  refine a_iload_n dX7_assign_17 rfl rfl ?_
  refine a_if_eq dX7_assign_18 (tgt := 23) rfl (fun c18 => ?_) (fun c18 => ?_)
  · replace h := h.1 c18
    refine a_aload_n dX7_assign_23 rfl rfl ?_
    refine a_getR dX7_assign_24 fw_RX7_26 rfl rfl (kRun_0 h_r0) (rRun_0_2 h_r0) ?_
    refine a_getR dX7_assign_27 fw_RX7_157 rfl rfl (kRun_20 h_r0) (rRun_20_3 h_r0) ?_
    refine a_iload_n dX7_assign_30 rfl rfl ?_
    obtain ⟨q31_0, h⟩ := h
    refine b_ialdV dX7_assign_31 (kRun_34 h_r0) (nRun_34 h_r0) (sk_lt hS q31_0) (sko (by omega) (sk_14 hS q31_0)) ?_
    refine a_istore dX7_assign_32 (Nat.le_of_ble_eq_true rfl) (ls' := [vR a0, vI x1, vI x2, vI (refuM M x1 x2), vI (ofM M x1 6)]) rfl ?_
    refine a_aload_n dX7_assign_34 rfl rfl ?_
    refine a_getR dX7_assign_35 fw_RX7_26 rfl rfl (kRun_0 h_r0) (rRun_0_2 h_r0) ?_
    refine a_iload_n dX7_assign_38 rfl rfl ?_
    refine a_iload_n dX7_assign_39 rfl rfl ?_
    refine a_callV dX7_assign_40 cw_X7_assign_40 (as := [vI x1, vI x2]) rfl rfl (kRun_20 h_r0) (Nat.le_refl _) (Nat.le_of_ble_eq_true rfl) (nocov rfl) (Nat.le_of_ble_eq_true rfl) (Nat.le_of_ble_eq_true rfl) (CL.mono h (fun r9 H1 h => ?_))
    obtain ⟨M1, h_r0_1, hSr0_20_1, e9, h⟩ := h
    rw [e9]
    show AW l G mX7_assign (d + 1) 4 24 Q 43 [vR a0, vI x1, vI x2, vI (refuM M x1 x2), vI (ofM M x1 6)] [] 2 12 H1
    refine a_iload dX7_assign_43 rfl ?_
    exact a_iret dX7_assign_45 rfl (Nat.le_of_ble_eq_true rfl) (Nat.le_of_ble_eq_true rfl) h
  · replace h := h.2 c18
    refine a_iload_n dX7_assign_21 rfl rfl ?_
    exact a_iret dX7_assign_22 rfl (Nat.le_of_ble_eq_true rfl) (Nat.le_of_ble_eq_true rfl) h


theorem dX7_cancel_0 : decode cX7_cancel 0 = .ok (.aload_n 0, 1) := by decide +kernel
theorem dX7_cancel_1 : decode cX7_cancel 1 = .ok (.iload_n 1, 1) := by decide +kernel
theorem dX7_cancel_2 : decode cX7_cancel 2 = .ok (.invokevirtual 99, 3) := by decide +kernel
theorem dX7_cancel_5 : decode cX7_cancel 5 = .ok (.aload_n 0, 1) := by decide +kernel
theorem dX7_cancel_6 : decode cX7_cancel 6 = .ok (.getfield 26, 3) := by decide +kernel
theorem dX7_cancel_9 : decode cX7_cancel 9 = .ok (.getfield 170, 3) := by decide +kernel
theorem dX7_cancel_12 : decode cX7_cancel 12 = .ok (.iload_n 1, 1) := by decide +kernel
theorem dX7_cancel_13 : decode cX7_cancel 13 = .ok (.iaload, 1) := by decide +kernel
theorem dX7_cancel_14 : decode cX7_cancel 14 = .ok (.ifCond .eq 6, 3) := by decide +kernel
theorem dX7_cancel_17 : decode cX7_cancel 17 = .ok (.bipush (-3), 2) := by decide +kernel
theorem dX7_cancel_19 : decode cX7_cancel 19 = .ok (.ireturn, 1) := by decide +kernel
theorem dX7_cancel_20 : decode cX7_cancel 20 = .ok (.aload_n 0, 1) := by decide +kernel
theorem dX7_cancel_21 : decode cX7_cancel 21 = .ok (.getfield 26, 3) := by decide +kernel
theorem dX7_cancel_24 : decode cX7_cancel 24 = .ok (.getfield 170, 3) := by decide +kernel
theorem dX7_cancel_27 : decode cX7_cancel 27 = .ok (.iload_n 1, 1) := by decide +kernel
theorem dX7_cancel_28 : decode cX7_cancel 28 = .ok (.iconst 3, 1) := by decide +kernel
theorem dX7_cancel_29 : decode cX7_cancel 29 = .ok (.iastore, 1) := by decide +kernel
theorem dX7_cancel_30 : decode cX7_cancel 30 = .ok (.aload_n 0, 1) := by decide +kernel
theorem dX7_cancel_31 : decode cX7_cancel 31 = .ok (.getfield 26, 3) := by decide +kernel
theorem dX7_cancel_34 : decode cX7_cancel 34 = .ok (.getfield 173, 3) := by decide +kernel
theorem dX7_cancel_37 : decode cX7_cancel 37 = .ok (.aload_n 0, 1) := by decide +kernel
theorem dX7_cancel_38 : decode cX7_cancel 38 = .ok (.getfield 26, 3) := by decide +kernel
theorem dX7_cancel_41 : decode cX7_cancel 41 = .ok (.getfield 157, 3) := by decide +kernel
theorem dX7_cancel_44 : decode cX7_cancel 44 = .ok (.iload_n 1, 1) := by decide +kernel
theorem dX7_cancel_45 : decode cX7_cancel 45 = .ok (.iaload, 1) := by decide +kernel
theorem dX7_cancel_46 : decode cX7_cancel 46 = .ok (.iconst 0, 1) := by decide +kernel
theorem dX7_cancel_47 : decode cX7_cancel 47 = .ok (.bastore, 1) := by decide +kernel
theorem dX7_cancel_48 : decode cX7_cancel 48 = .ok (.aload_n 0, 1) := by decide +kernel
theorem dX7_cancel_49 : decode cX7_cancel 49 = .ok (.getfield 26, 3) := by decide +kernel
theorem dX7_cancel_52 : decode cX7_cancel 52 = .ok (.iconst 0, 1) := by decide +kernel
theorem dX7_cancel_53 : decode cX7_cancel 53 = .ok (.invokevirtual 176, 3) := by decide +kernel
theorem dX7_cancel_56 : decode cX7_cancel 56 = .ok (.ireturn, 1) := by decide +kernel
set_option maxRecDepth 20000 in
theorem s_X7_cancel_0 {l : Launch} {G : GT} {d : Nat} {Q : AV → AH → Prop} {H : AH} {a0 x1 : Int} (hG : GX l G) {M : Row} (hS : SK H (a0 + 20) M) (h_r0 : Lay LRun H a0) (h : (¬ (fl M x1) → Q (vT 1) H) ∧ (fl M x1 → (0 ≤ x1 ∧ x1 < M 6) ∧ ((ofM M x1 7) = 0 → (0 ≤ x1 ∧ x1 < 24) ∧ ∀ H1 : AH, H1 = hs H (a0 + 35) x1 3 → (0 ≤ (hg H1 (a0 + 34) x1) ∧ (hg H1 (a0 + 34) x1) < 3) ∧ ∀ H2 : AH, H2 = hs H1 (a0 + 41) (hg H1 (a0 + 34) x1) 0 → CL l G mX6_countIn d 0 0 [vR (a0 + 20), vI 0] H2 (fun r9 H3 => ∃ M3 : Row, Lay LRun H3 a0 ∧ SK H3 (a0 + 20) M3 ∧ ∃ y3 : Int, r9 = vI y3 ∧ Q (vI y3) H3)) ∧ (¬ (ofM M x1 7) = 0 → Q (vI (-3)) H))) (hd : 6 ≤ d := by omega) : AW l G mX7_cancel (d + 1) 4 24 Q 0 [vR a0, vI x1] [] 0 0 H := by
  refine a_aload_n dX7_cancel_0 rfl rfl ?_
  refine a_iload_n dX7_cancel_1 rfl rfl ?_
  refine a_callV dX7_cancel_2 cw_X7_cancel_2 (as := [vI x1]) rfl rfl (kRun_0 h_r0) (Nat.le_refl _) (Nat.le_of_ble_eq_true rfl) (nocov rfl) (Nat.le_of_ble_eq_true rfl) (Nat.le_of_ble_eq_true rfl) (CL.mono (k_checkFlight hG h_r0 hS) (fun r9 H9 h9 => ?_))
  obtain ⟨h8, h9⟩ := h9
  rw [h8]
  rcases h9 with ⟨c2, e9⟩ | ⟨c2, e9⟩
  · rw [e9]; exact h.1 c2
  rw [e9]
  replace h := h.2 c2
  show AW l G mX7_cancel (d + 1) 4 24 Q 5 [vR a0, vI x1] [] 1 6 H
  refine a_aload_n dX7_cancel_5 rfl rfl ?_
  refine a_getR dX7_cancel_6 fw_RX7_26 rfl rfl (kRun_0 h_r0) (rRun_0_2 h_r0) ?_
  refine a_getR dX7_cancel_9 fw_RX7_170 rfl rfl (kRun_20 h_r0) (rRun_20_4 h_r0) ?_
  refine a_iload_n dX7_cancel_12 rfl rfl ?_
  obtain ⟨q13_0, h⟩ := h
  refine b_ialdV dX7_cancel_13 (kRun_35 h_r0) (nRun_35 h_r0) (sk_lt hS q13_0) (sko (by omega) (sk_15 hS q13_0)) ?_
  refine a_if_eq dX7_cancel_14 (tgt := 20) rfl (fun c14 => ?_) (fun c14 => ?_)
  · replace h := h.1 c14
    refine a_aload_n dX7_cancel_20 rfl rfl ?_
    refine a_getR dX7_cancel_21 fw_RX7_26 rfl rfl (kRun_0 h_r0) (rRun_0_2 h_r0) ?_
    refine a_getR dX7_cancel_24 fw_RX7_170 rfl rfl (kRun_20 h_r0) (rRun_20_4 h_r0) ?_
    refine a_iload_n dX7_cancel_27 rfl rfl ?_
    refine a_iconst dX7_cancel_28 ⟨by decide, by decide⟩ ?_
    obtain ⟨q29_0, h⟩ := h
    refine b_iast dX7_cancel_29 (kRun_35 h_r0) (nRun_35 h_r0) q29_0 ?_
    have h_r0_1 := Lay.wr h_r0 ok_Run (nrf_arr (kRun_35 h_r0) (by decide) (by decide)) (i := x1) (x := 3)
    generalize e_H1 : hs H (a0 + 35) x1 3 = H1 at h_r0_1 ⊢
    replace h := h H1 e_H1.symm
    refine a_aload_n dX7_cancel_30 rfl rfl ?_
    refine a_getR dX7_cancel_31 fw_RX7_26 rfl rfl (kRun_0 h_r0_1) (rRun_0_2 h_r0_1) ?_
    refine a_getR dX7_cancel_34 fw_RX7_173 rfl rfl (kRun_20 h_r0_1) (rRun_20_11 h_r0_1) ?_
    refine a_aload_n dX7_cancel_37 rfl rfl ?_
    refine a_getR dX7_cancel_38 fw_RX7_26 rfl rfl (kRun_0 h_r0_1) (rRun_0_2 h_r0_1) ?_
    refine a_getR dX7_cancel_41 fw_RX7_157 rfl rfl (kRun_20 h_r0_1) (rRun_20_3 h_r0_1) ?_
    refine a_iload_n dX7_cancel_44 rfl rfl ?_
    refine b_iald dX7_cancel_45 (kRun_34 h_r0_1) (nRun_34 h_r0_1) q29_0 ?_
    refine a_iconst dX7_cancel_46 ⟨by decide, by decide⟩ ?_
    obtain ⟨q47_0, h⟩ := h
    refine b_zast dX7_cancel_47 (kRun_41 h_r0_1) (nRun_41 h_r0_1) q47_0 (by decide) ?_
    have h_r0_2 := Lay.wr h_r0_1 ok_Run (nrf_arr (kRun_41 h_r0_1) (by decide) (by decide)) (i := (hg H1 (a0 + 34) x1)) (x := 0)
    generalize e_H2 : hs H1 (a0 + 41) (hg H1 (a0 + 34) x1) 0 = H2 at h_r0_2 ⊢
    replace h := h H2 e_H2.symm
    refine a_aload_n dX7_cancel_48 rfl rfl ?_
    refine a_getR dX7_cancel_49 fw_RX7_26 rfl rfl (kRun_0 h_r0_2) (rRun_0_2 h_r0_2) ?_
    refine a_iconst dX7_cancel_52 ⟨by decide, by decide⟩ ?_
    refine a_callV dX7_cancel_53 cw_X7_cancel_53 (as := [vI 0]) rfl rfl (kRun_20 h_r0_2) (Nat.le_refl _) (Nat.le_of_ble_eq_true rfl) (nocov rfl) (Nat.le_of_ble_eq_true rfl) (Nat.le_of_ble_eq_true rfl) (CL.mono h (fun r9 H3 h => ?_))
    obtain ⟨M3, h_r0_3, hSr0_20_3, y3, e9, h⟩ := h
    rw [e9]
    show AW l G mX7_cancel (d + 1) 4 24 Q 56 [vR a0, vI x1] [vI y3] 1 6 H3
    exact a_iret dX7_cancel_56 rfl (Nat.le_of_ble_eq_true rfl) (Nat.le_of_ble_eq_true rfl) h
  · replace h := h.2 c14
    refine a_bipush dX7_cancel_17 (by decide) ?_
    exact a_iret dX7_cancel_19 rfl (Nat.le_of_ble_eq_true rfl) (Nat.le_of_ble_eq_true rfl) h


theorem dX7_goAround_0 : decode cX7_goAround 0 = .ok (.aload_n 0, 1) := by decide +kernel
theorem dX7_goAround_1 : decode cX7_goAround 1 = .ok (.iload_n 1, 1) := by decide +kernel
theorem dX7_goAround_2 : decode cX7_goAround 2 = .ok (.invokevirtual 99, 3) := by decide +kernel
theorem dX7_goAround_5 : decode cX7_goAround 5 = .ok (.aload_n 0, 1) := by decide +kernel
theorem dX7_goAround_6 : decode cX7_goAround 6 = .ok (.iload_n 1, 1) := by decide +kernel
theorem dX7_goAround_7 : decode cX7_goAround 7 = .ok (.invokevirtual 180, 3) := by decide +kernel
theorem dX7_goAround_10 : decode cX7_goAround 10 = .ok (.istore_n 2, 1) := by decide +kernel
theorem dX7_goAround_11 : decode cX7_goAround 11 = .ok (.iload_n 2, 1) := by decide +kernel
theorem dX7_goAround_12 : decode cX7_goAround 12 = .ok (.ifCond .eq 5, 3) := by decide +kernel
theorem dX7_goAround_15 : decode cX7_goAround 15 = .ok (.iload_n 2, 1) := by decide +kernel
theorem dX7_goAround_16 : decode cX7_goAround 16 = .ok (.ireturn, 1) := by decide +kernel
theorem dX7_goAround_17 : decode cX7_goAround 17 = .ok (.aload_n 0, 1) := by decide +kernel
theorem dX7_goAround_18 : decode cX7_goAround 18 = .ok (.getfield 26, 3) := by decide +kernel
theorem dX7_goAround_21 : decode cX7_goAround 21 = .ok (.iload_n 1, 1) := by decide +kernel
theorem dX7_goAround_22 : decode cX7_goAround 22 = .ok (.invokevirtual 183, 3) := by decide +kernel
theorem dX7_goAround_25 : decode cX7_goAround 25 = .ok (.aload_n 0, 1) := by decide +kernel
theorem dX7_goAround_26 : decode cX7_goAround 26 = .ok (.getfield 26, 3) := by decide +kernel
theorem dX7_goAround_29 : decode cX7_goAround 29 = .ok (.getfield 77, 3) := by decide +kernel
theorem dX7_goAround_32 : decode cX7_goAround 32 = .ok (.getfield 116, 3) := by decide +kernel
theorem dX7_goAround_35 : decode cX7_goAround 35 = .ok (.iload_n 1, 1) := by decide +kernel
theorem dX7_goAround_36 : decode cX7_goAround 36 = .ok (.iaload, 1) := by decide +kernel
theorem dX7_goAround_37 : decode cX7_goAround 37 = .ok (.ireturn, 1) := by decide +kernel
set_option maxRecDepth 20000 in
theorem s_X7_goAround_0 {l : Launch} {G : GT} {d : Nat} {Q : AV → AH → Prop} {H : AH} {a0 x1 : Int} (hG : GX l G) {M : Row} (hS : SK H (a0 + 20) M) (h_r0 : Lay LRun H a0) (h : (¬ (fl M x1) → Q (vT 1) H) ∧ (fl M x1 → (fl M x1) ∧ ((noarM M x1) = 0 → CL l G mX6_turn d 0 0 [vR (a0 + 20), vI x1] H (fun r9 H1 => ∃ M1 : Row, Lay LRun H1 a0 ∧ SK H1 (a0 + 20) M1 ∧ r9 = vV ∧ (0 ≤ x1 ∧ x1 < M1 6) ∧ Q (vI (ofM M1 x1 2)) H1)) ∧ (¬ (noarM M x1) = 0 → Q (vI (noarM M x1)) H))) (hd : 6 ≤ d := by omega) : AW l G mX7_goAround (d + 1) 4 24 Q 0 [vR a0, vI x1, vU] [] 0 0 H := by
  refine a_aload_n dX7_goAround_0 rfl rfl ?_
  refine a_iload_n dX7_goAround_1 rfl rfl ?_
  refine a_callV dX7_goAround_2 cw_X7_goAround_2 (as := [vI x1]) rfl rfl (kRun_0 h_r0) (Nat.le_refl _) (Nat.le_of_ble_eq_true rfl) (nocov rfl) (Nat.le_of_ble_eq_true rfl) (Nat.le_of_ble_eq_true rfl) (CL.mono (k_checkFlight hG h_r0 hS) (fun r9 H9 h9 => ?_))
  obtain ⟨h8, h9⟩ := h9
  rw [h8]
  rcases h9 with ⟨c2, e9⟩ | ⟨c2, e9⟩
  · rw [e9]; exact h.1 c2
  rw [e9]
  replace h := h.2 c2
  show AW l G mX7_goAround (d + 1) 4 24 Q 5 [vR a0, vI x1, vU] [] 1 6 H
  refine a_aload_n dX7_goAround_5 rfl rfl ?_
  refine a_iload_n dX7_goAround_6 rfl rfl ?_
  obtain ⟨q7_0, h⟩ := h
  refine a_callV dX7_goAround_7 cw_X7_goAround_7 (as := [vI x1]) rfl rfl (kRun_0 h_r0) (Nat.le_refl _) (Nat.le_of_ble_eq_true rfl) (nocov rfl) (Nat.le_of_ble_eq_true rfl) (Nat.le_of_ble_eq_true rfl) (CL.mono (k_errorOfTurn hS h_r0 q7_0) (fun r9 H9 h9 => ?_))
  rw [h9.1, h9.2]
  show AW l G mX7_goAround (d + 1) 4 24 Q 10 [vR a0, vI x1, vU] [vI (noarM M x1)] 1 6 H
  refine a_istore_n dX7_goAround_10 rfl (Nat.le_of_ble_eq_true rfl) (ls' := [vR a0, vI x1, vI (noarM M x1)]) rfl ?_
  refine a_iload_n dX7_goAround_11 rfl rfl ?_
  refine a_if_eq dX7_goAround_12 (tgt := 17) rfl (fun c12 => ?_) (fun c12 => ?_)
  · replace h := h.1 c12
    refine a_aload_n dX7_goAround_17 rfl rfl ?_
    refine a_getR dX7_goAround_18 fw_RX7_26 rfl rfl (kRun_0 h_r0) (rRun_0_2 h_r0) ?_
    refine a_iload_n dX7_goAround_21 rfl rfl ?_
    refine a_callV dX7_goAround_22 cw_X7_goAround_22 (as := [vI x1]) rfl rfl (kRun_20 h_r0) (Nat.le_refl _) (Nat.le_of_ble_eq_true rfl) (nocov rfl) (Nat.le_of_ble_eq_true rfl) (Nat.le_of_ble_eq_true rfl) (CL.mono h (fun r9 H1 h => ?_))
    obtain ⟨M1, h_r0_1, hSr0_20_1, e9, h⟩ := h
    rw [e9]
    show AW l G mX7_goAround (d + 1) 4 24 Q 25 [vR a0, vI x1, vI (noarM M x1)] [] 1 6 H1
    refine a_aload_n dX7_goAround_25 rfl rfl ?_
    refine a_getR dX7_goAround_26 fw_RX7_26 rfl rfl (kRun_0 h_r0_1) (rRun_0_2 h_r0_1) ?_
    refine a_getR dX7_goAround_29 fw_RX7_77 rfl rfl (kRun_20 h_r0_1) (rRun_20_1 h_r0_1) ?_
    refine a_getR dX7_goAround_32 fw_RX7_116 rfl rfl (kRun_25 h_r0_1) (rRun_25_5 h_r0_1) ?_
    refine a_iload_n dX7_goAround_35 rfl rfl ?_
    obtain ⟨q36_0, h⟩ := h
    refine b_ialdV dX7_goAround_36 (kRun_30 h_r0_1) (nRun_30 h_r0_1) (sk_lt hSr0_20_1 q36_0) (sko (by omega) (sk_10 hSr0_20_1 q36_0)) ?_
    exact a_iret dX7_goAround_37 rfl (Nat.le_of_ble_eq_true rfl) (Nat.le_of_ble_eq_true rfl) h
  · replace h := h.2 c12
    refine a_iload_n dX7_goAround_15 rfl rfl ?_
    exact a_iret dX7_goAround_16 rfl (Nat.le_of_ble_eq_true rfl) (Nat.le_of_ble_eq_true rfl) h


theorem dX7_costWithReach_0 : decode cX7_costWithReach 0 = .ok (.aload_n 0, 1) := by decide +kernel
theorem dX7_costWithReach_1 : decode cX7_costWithReach 1 = .ok (.getfield 30, 3) := by decide +kernel
theorem dX7_costWithReach_4 : decode cX7_costWithReach 4 = .ok (.aload_n 0, 1) := by decide +kernel
theorem dX7_costWithReach_5 : decode cX7_costWithReach 5 = .ok (.getfield 26, 3) := by decide +kernel
theorem dX7_costWithReach_8 : decode cX7_costWithReach 8 = .ok (.invokevirtual 73, 3) := by decide +kernel
theorem dX7_costWithReach_11 : decode cX7_costWithReach 11 = .ok (.aload_n 0, 1) := by decide +kernel
theorem dX7_costWithReach_12 : decode cX7_costWithReach 12 = .ok (.getfield 30, 3) := by decide +kernel
theorem dX7_costWithReach_15 : decode cX7_costWithReach 15 = .ok (.getfield 90, 3) := by decide +kernel
theorem dX7_costWithReach_18 : decode cX7_costWithReach 18 = .ok (.iload_n 1, 1) := by decide +kernel
theorem dX7_costWithReach_19 : decode cX7_costWithReach 19 = .ok (.putfield 146, 3) := by decide +kernel
theorem dX7_costWithReach_22 : decode cX7_costWithReach 22 = .ok (.aload_n 0, 1) := by decide +kernel
theorem dX7_costWithReach_23 : decode cX7_costWithReach 23 = .ok (.getfield 30, 3) := by decide +kernel
theorem dX7_costWithReach_26 : decode cX7_costWithReach 26 = .ok (.invokevirtual 152, 3) := by decide +kernel
theorem dX7_costWithReach_29 : decode cX7_costWithReach 29 = .ok (.aload_n 0, 1) := by decide +kernel
theorem dX7_costWithReach_30 : decode cX7_costWithReach 30 = .ok (.getfield 19, 3) := by decide +kernel
theorem dX7_costWithReach_33 : decode cX7_costWithReach 33 = .ok (.aload_n 0, 1) := by decide +kernel
theorem dX7_costWithReach_34 : decode cX7_costWithReach 34 = .ok (.getfield 30, 3) := by decide +kernel
theorem dX7_costWithReach_37 : decode cX7_costWithReach 37 = .ok (.invokevirtual 210, 3) := by decide +kernel
theorem dX7_costWithReach_40 : decode cX7_costWithReach 40 = .ok (.lreturn, 1) := by decide +kernel
set_option maxRecDepth 20000 in
theorem s_X7_costWithReach_0 {l : Launch} {G : GT} {d : Nat} {Q : AV → AH → Prop} {H : AH} {a0 x1 : Int} {M : Row} (hS : SK H (a0 + 20) M) (h_r0 : Lay LRun H a0) (h : CL l G mX6_copyFrom d 0 0 [vR (a0 + 43), vR (a0 + 20)] H (fun r9 H1 => ∃ M1 : Row, Lay LRun H1 a0 ∧ SK H1 (a0 + 20) M ∧ SK H1 (a0 + 43) M1 ∧ r9 = vV ∧ ∀ H2 : AH, H2 = hs H1 (a0 + 44) 2 x1 → CL l G mX6_forgetPlans d 0 0 [vR (a0 + 43)] H2 (fun r9 H3 => ∃ M3 : Row, Lay LRun H3 a0 ∧ SK H3 (a0 + 20) M ∧ SK H3 (a0 + 43) M3 ∧ r9 = vV ∧ CL l G mX2_wholeCost d 0 0 [vR (a0 + 3), vR (a0 + 43)] H3 (fun r9 H4 => Lay LRun H4 a0 ∧ SK H4 (a0 + 20) M ∧ SK H4 (a0 + 43) M3 ∧ ∃ y4 : Int, r9 = vJ y4 ∧ Q (vJ y4) H4)))) : AW l G mX7_costWithReach (d + 1) 0 0 Q 0 [vR a0, vI x1] [] 0 0 H := by
  refine a_aload_n dX7_costWithReach_0 rfl rfl ?_
  refine a_getR dX7_costWithReach_1 fw_RX7_30 rfl rfl (kRun_0 h_r0) (rRun_0_3 h_r0) ?_
  refine a_aload_n dX7_costWithReach_4 rfl rfl ?_
  refine a_getR dX7_costWithReach_5 fw_RX7_26 rfl rfl (kRun_0 h_r0) (rRun_0_2 h_r0) ?_
  refine a_callV dX7_costWithReach_8 cw_X7_costWithReach_8 (as := [vR (a0 + 20)]) rfl rfl (kRun_43 h_r0) (Nat.le_refl _) (Nat.le_of_ble_eq_true rfl) (nocov rfl) (Nat.le_of_ble_eq_true rfl) (Nat.le_of_ble_eq_true rfl) (CL.mono h (fun r9 H1 h => ?_))
  obtain ⟨M1, h_r0_1, hSr0_20_1, hSr0_43_1, e9, h⟩ := h
  rw [e9]
  show AW l G mX7_costWithReach (d + 1) 0 0 Q 11 [vR a0, vI x1] [] 0 0 H1
  refine a_aload_n dX7_costWithReach_11 rfl rfl ?_
  refine a_getR dX7_costWithReach_12 fw_RX7_30 rfl rfl (kRun_0 h_r0_1) (rRun_0_3 h_r0_1) ?_
  refine a_getR dX7_costWithReach_15 fw_RX7_90 rfl rfl (kRun_43 h_r0_1) (rRun_43_0 h_r0_1) ?_
  refine a_iload_n dX7_costWithReach_18 rfl rfl ?_
  refine a_putI dX7_costWithReach_19 fp_RX7_146 rfl rfl (kRun_44 h_r0_1) ?_
  have h_r0_2 := Lay.wr h_r0_1 ok_Run (nrf_fld 2 (kRun_44 h_r0_1) (by decide) (by decide)) (i := 2) (x := x1)
  generalize e_H2 : hs H1 (a0 + 44) 2 x1 = H2 at h_r0_2 ⊢
  replace h := h H2 e_H2.symm
  have hSr0_20_2 : SK H2 (a0 + 20) M := by rw [← e_H2]; exact SK.wr hSr0_20_1 (nrf_fld 2 (kRun_44 h_r0_1) (by decide) (by decide)) (by omega)
  refine a_aload_n dX7_costWithReach_22 rfl rfl ?_
  refine a_getR dX7_costWithReach_23 fw_RX7_30 rfl rfl (kRun_0 h_r0_2) (rRun_0_3 h_r0_2) ?_
  refine a_callV dX7_costWithReach_26 cw_X7_costWithReach_26 (as := []) rfl rfl (kRun_43 h_r0_2) (Nat.le_refl _) (Nat.le_of_ble_eq_true rfl) (nocov rfl) (Nat.le_of_ble_eq_true rfl) (Nat.le_of_ble_eq_true rfl) (CL.mono h (fun r9 H3 h => ?_))
  obtain ⟨M3, h_r0_3, hSr0_20_3, hSr0_43_3, e9, h⟩ := h
  rw [e9]
  show AW l G mX7_costWithReach (d + 1) 0 0 Q 29 [vR a0, vI x1] [] 0 0 H3
  refine a_aload_n dX7_costWithReach_29 rfl rfl ?_
  refine a_getR dX7_costWithReach_30 fw_RX7_19 rfl rfl (kRun_0 h_r0_3) (rRun_0_1 h_r0_3) ?_
  refine a_aload_n dX7_costWithReach_33 rfl rfl ?_
  refine a_getR dX7_costWithReach_34 fw_RX7_30 rfl rfl (kRun_0 h_r0_3) (rRun_0_3 h_r0_3) ?_
  refine a_callV dX7_costWithReach_37 cw_X7_costWithReach_37 (as := [vR (a0 + 43)]) rfl rfl (kRun_3 h_r0_3) (Nat.le_refl _) (Nat.le_of_ble_eq_true rfl) (nocov rfl) (Nat.le_of_ble_eq_true rfl) (Nat.le_of_ble_eq_true rfl) (CL.mono h (fun r9 H4 h => ?_))
  obtain ⟨h_r0_4, hSr0_20_4, hSr0_43_4, y4, e9, h⟩ := h
  rw [e9]
  show AW l G mX7_costWithReach (d + 1) 0 0 Q 40 [vR a0, vI x1] [vJ y4] 0 0 H4
  exact a_lret dX7_costWithReach_40 rfl (Nat.le_of_ble_eq_true rfl) (Nat.le_of_ble_eq_true rfl) h


theorem dX7_costMoved_0 : decode cX7_costMoved 0 = .ok (.aload_n 0, 1) := by decide +kernel
theorem dX7_costMoved_1 : decode cX7_costMoved 1 = .ok (.getfield 30, 3) := by decide +kernel
theorem dX7_costMoved_4 : decode cX7_costMoved 4 = .ok (.aload_n 0, 1) := by decide +kernel
theorem dX7_costMoved_5 : decode cX7_costMoved 5 = .ok (.getfield 26, 3) := by decide +kernel
theorem dX7_costMoved_8 : decode cX7_costMoved 8 = .ok (.invokevirtual 73, 3) := by decide +kernel
theorem dX7_costMoved_11 : decode cX7_costMoved 11 = .ok (.aload_n 0, 1) := by decide +kernel
theorem dX7_costMoved_12 : decode cX7_costMoved 12 = .ok (.getfield 30, 3) := by decide +kernel
theorem dX7_costMoved_15 : decode cX7_costMoved 15 = .ok (.iload_n 1, 1) := by decide +kernel
theorem dX7_costMoved_16 : decode cX7_costMoved 16 = .ok (.iload_n 2, 1) := by decide +kernel
theorem dX7_costMoved_17 : decode cX7_costMoved 17 = .ok (.invokevirtual 166, 3) := by decide +kernel
theorem dX7_costMoved_20 : decode cX7_costMoved 20 = .ok (.aload_n 0, 1) := by decide +kernel
theorem dX7_costMoved_21 : decode cX7_costMoved 21 = .ok (.getfield 19, 3) := by decide +kernel
theorem dX7_costMoved_24 : decode cX7_costMoved 24 = .ok (.aload_n 0, 1) := by decide +kernel
theorem dX7_costMoved_25 : decode cX7_costMoved 25 = .ok (.getfield 30, 3) := by decide +kernel
theorem dX7_costMoved_28 : decode cX7_costMoved 28 = .ok (.invokevirtual 210, 3) := by decide +kernel
theorem dX7_costMoved_31 : decode cX7_costMoved 31 = .ok (.lreturn, 1) := by decide +kernel
set_option maxRecDepth 20000 in
theorem s_X7_costMoved_0 {l : Launch} {G : GT} {d : Nat} {Q : AV → AH → Prop} {H : AH} {a0 x1 x2 : Int} {M : Row} (hS : SK H (a0 + 20) M) (h_r0 : Lay LRun H a0) (h : CL l G mX6_copyFrom d 0 0 [vR (a0 + 43), vR (a0 + 20)] H (fun r9 H1 => ∃ M1 : Row, Lay LRun H1 a0 ∧ SK H1 (a0 + 20) M ∧ SK H1 (a0 + 43) M1 ∧ r9 = vV ∧ CL l G mX6_moveTo d 0 0 [vR (a0 + 43), vI x1, vI x2] H1 (fun r9 H2 => ∃ M2 : Row, Lay LRun H2 a0 ∧ SK H2 (a0 + 20) M ∧ SK H2 (a0 + 43) M2 ∧ r9 = vV ∧ CL l G mX2_wholeCost d 0 0 [vR (a0 + 3), vR (a0 + 43)] H2 (fun r9 H3 => Lay LRun H3 a0 ∧ SK H3 (a0 + 20) M ∧ SK H3 (a0 + 43) M2 ∧ ∃ y3 : Int, r9 = vJ y3 ∧ Q (vJ y3) H3)))) : AW l G mX7_costMoved (d + 1) 0 0 Q 0 [vR a0, vI x1, vI x2] [] 0 0 H := by
  refine a_aload_n dX7_costMoved_0 rfl rfl ?_
  refine a_getR dX7_costMoved_1 fw_RX7_30 rfl rfl (kRun_0 h_r0) (rRun_0_3 h_r0) ?_
  refine a_aload_n dX7_costMoved_4 rfl rfl ?_
  refine a_getR dX7_costMoved_5 fw_RX7_26 rfl rfl (kRun_0 h_r0) (rRun_0_2 h_r0) ?_
  refine a_callV dX7_costMoved_8 cw_X7_costMoved_8 (as := [vR (a0 + 20)]) rfl rfl (kRun_43 h_r0) (Nat.le_refl _) (Nat.le_of_ble_eq_true rfl) (nocov rfl) (Nat.le_of_ble_eq_true rfl) (Nat.le_of_ble_eq_true rfl) (CL.mono h (fun r9 H1 h => ?_))
  obtain ⟨M1, h_r0_1, hSr0_20_1, hSr0_43_1, e9, h⟩ := h
  rw [e9]
  show AW l G mX7_costMoved (d + 1) 0 0 Q 11 [vR a0, vI x1, vI x2] [] 0 0 H1
  refine a_aload_n dX7_costMoved_11 rfl rfl ?_
  refine a_getR dX7_costMoved_12 fw_RX7_30 rfl rfl (kRun_0 h_r0_1) (rRun_0_3 h_r0_1) ?_
  refine a_iload_n dX7_costMoved_15 rfl rfl ?_
  refine a_iload_n dX7_costMoved_16 rfl rfl ?_
  refine a_callV dX7_costMoved_17 cw_X7_costMoved_17 (as := [vI x1, vI x2]) rfl rfl (kRun_43 h_r0_1) (Nat.le_refl _) (Nat.le_of_ble_eq_true rfl) (nocov rfl) (Nat.le_of_ble_eq_true rfl) (Nat.le_of_ble_eq_true rfl) (CL.mono h (fun r9 H2 h => ?_))
  obtain ⟨M2, h_r0_2, hSr0_20_2, hSr0_43_2, e9, h⟩ := h
  rw [e9]
  show AW l G mX7_costMoved (d + 1) 0 0 Q 20 [vR a0, vI x1, vI x2] [] 0 0 H2
  refine a_aload_n dX7_costMoved_20 rfl rfl ?_
  refine a_getR dX7_costMoved_21 fw_RX7_19 rfl rfl (kRun_0 h_r0_2) (rRun_0_1 h_r0_2) ?_
  refine a_aload_n dX7_costMoved_24 rfl rfl ?_
  refine a_getR dX7_costMoved_25 fw_RX7_30 rfl rfl (kRun_0 h_r0_2) (rRun_0_3 h_r0_2) ?_
  refine a_callV dX7_costMoved_28 cw_X7_costMoved_28 (as := [vR (a0 + 43)]) rfl rfl (kRun_3 h_r0_2) (Nat.le_refl _) (Nat.le_of_ble_eq_true rfl) (nocov rfl) (Nat.le_of_ble_eq_true rfl) (Nat.le_of_ble_eq_true rfl) (CL.mono h (fun r9 H3 h => ?_))
  obtain ⟨h_r0_3, hSr0_20_3, hSr0_43_3, y3, e9, h⟩ := h
  rw [e9]
  show AW l G mX7_costMoved (d + 1) 0 0 Q 31 [vR a0, vI x1, vI x2] [vJ y3] 0 0 H3
  exact a_lret dX7_costMoved_31 rfl (Nat.le_of_ble_eq_true rfl) (Nat.le_of_ble_eq_true rfl) h


theorem dX7_costWithShift_0 : decode cX7_costWithShift 0 = .ok (.iload_n 1, 1) := by decide +kernel
theorem dX7_costWithShift_1 : decode cX7_costWithShift 1 = .ok (.invokestatic 149, 3) := by decide +kernel
theorem dX7_costWithShift_4 : decode cX7_costWithShift 4 = .ok (.aload_n 0, 1) := by decide +kernel
theorem dX7_costWithShift_5 : decode cX7_costWithShift 5 = .ok (.iload_n 1, 1) := by decide +kernel
theorem dX7_costWithShift_6 : decode cX7_costWithShift 6 = .ok (.invokevirtual 260, 3) := by decide +kernel
theorem dX7_costWithShift_9 : decode cX7_costWithShift 9 = .ok (.lreturn, 1) := by decide +kernel
set_option maxRecDepth 20000 in
theorem s_X7_costWithShift_0 {l : Launch} {G : GT} {d : Nat} {Q : AV → AH → Prop} {H : AH} {a0 x1 : Int} (hG : GX l G) {M : Row} (hS : SK H (a0 + 20) M) (h_r0 : Lay LRun H a0) (h : (¬ (0 ≤ x1 ∧ x1 ≤ 4) → Q (vT 0) H) ∧ (0 ≤ x1 ∧ x1 ≤ 4 → CL l G mX7_costWithReach d 0 0 [vR a0, vI x1] H (fun r9 H1 => Lay LRun H1 a0 ∧ SK H1 (a0 + 20) M ∧ ∃ y1 : Int, r9 = vJ y1 ∧ Q (vJ y1) H1))) (hd : 6 ≤ d := by omega) : AW l G mX7_costWithShift (d + 1) 4 24 Q 0 [vR a0, vI x1] [] 0 0 H := by
  refine a_iload_n dX7_costWithShift_0 rfl rfl ?_
  refine a_callS dX7_costWithShift_1 cw_X7_costWithShift_1 (as := [vI x1]) rfl rfl (Nat.le_refl _) (Nat.le_of_ble_eq_true rfl) (nocov rfl) (Nat.le_of_ble_eq_true rfl) (Nat.le_of_ble_eq_true rfl) (CL.mono (k_checkShift hG) (fun r9 H9 h9 => ?_))
  obtain ⟨h8, h9⟩ := h9
  rw [h8]
  rcases h9 with ⟨c1, e9⟩ | ⟨c1, e9⟩
  · rw [e9]; exact h.1 c1
  rw [e9]
  replace h := h.2 c1
  show AW l G mX7_costWithShift (d + 1) 4 24 Q 4 [vR a0, vI x1] [] 1 6 H
  refine a_aload_n dX7_costWithShift_4 rfl rfl ?_
  refine a_iload_n dX7_costWithShift_5 rfl rfl ?_
  refine a_callV dX7_costWithShift_6 cw_X7_costWithShift_6 (as := [vI x1]) rfl rfl (kRun_0 h_r0) (Nat.le_refl _) (Nat.le_of_ble_eq_true rfl) (nocov rfl) (Nat.le_of_ble_eq_true rfl) (Nat.le_of_ble_eq_true rfl) (CL.mono h (fun r9 H1 h => ?_))
  obtain ⟨h_r0_1, hSr0_20_1, y1, e9, h⟩ := h
  rw [e9]
  show AW l G mX7_costWithShift (d + 1) 4 24 Q 9 [vR a0, vI x1] [vJ y1] 1 6 H1
  exact a_lret dX7_costWithShift_9 rfl (Nat.le_of_ble_eq_true rfl) (Nat.le_of_ble_eq_true rfl) h


theorem dX7_neededShift_0 : decode cX7_neededShift 0 = .ok (.aload_n 0, 1) := by decide +kernel
theorem dX7_neededShift_1 : decode cX7_neededShift 1 = .ok (.iconst 4, 1) := by decide +kernel
theorem dX7_neededShift_2 : decode cX7_neededShift 2 = .ok (.invokevirtual 260, 3) := by decide +kernel
theorem dX7_neededShift_5 : decode cX7_neededShift 5 = .ok (.lstore_n 1, 1) := by decide +kernel
theorem dX7_neededShift_6 : decode cX7_neededShift 6 = .ok (.iconst 0, 1) := by decide +kernel
theorem dX7_neededShift_7 : decode cX7_neededShift 7 = .ok (.istore_n 3, 1) := by decide +kernel
theorem dX7_neededShift_8 : decode cX7_neededShift 8 = .ok (.iload_n 3, 1) := by decide +kernel
theorem dX7_neededShift_9 : decode cX7_neededShift 9 = .ok (.iconst 4, 1) := by decide +kernel
theorem dX7_neededShift_10 : decode cX7_neededShift 10 = .ok (.if_icmp .ge 21, 3) := by decide +kernel
theorem dX7_neededShift_13 : decode cX7_neededShift 13 = .ok (.aload_n 0, 1) := by decide +kernel
theorem dX7_neededShift_14 : decode cX7_neededShift 14 = .ok (.iload_n 3, 1) := by decide +kernel
theorem dX7_neededShift_15 : decode cX7_neededShift 15 = .ok (.invokevirtual 260, 3) := by decide +kernel
theorem dX7_neededShift_18 : decode cX7_neededShift 18 = .ok (.lload_n 1, 1) := by decide +kernel
theorem dX7_neededShift_19 : decode cX7_neededShift 19 = .ok (.lcmp, 1) := by decide +kernel
theorem dX7_neededShift_20 : decode cX7_neededShift 20 = .ok (.ifCond .gt 5, 3) := by decide +kernel
theorem dX7_neededShift_23 : decode cX7_neededShift 23 = .ok (.iload_n 3, 1) := by decide +kernel
theorem dX7_neededShift_24 : decode cX7_neededShift 24 = .ok (.ireturn, 1) := by decide +kernel
theorem dX7_neededShift_25 : decode cX7_neededShift 25 = .ok (.iinc 3 1, 3) := by decide +kernel
theorem dX7_neededShift_28 : decode cX7_neededShift 28 = .ok (.goto (-20), 3) := by decide +kernel
theorem dX7_neededShift_31 : decode cX7_neededShift 31 = .ok (.iconst 4, 1) := by decide +kernel
theorem dX7_neededShift_32 : decode cX7_neededShift 32 = .ok (.ireturn, 1) := by decide +kernel
set_option maxRecDepth 20000 in
theorem s_X7_neededShift_0 {l : Launch} {G : GT} {d : Nat} {Q : AV → AH → Prop} {H : AH} {a0 : Int} {M : Row} (hS : SK H (a0 + 20) M) (h_r0 : Lay LRun H a0) (h : CL l G mX7_costWithReach d 0 0 [vR a0, vI 4] H (fun r9 H1 => Lay LRun H1 a0 ∧ SK H1 (a0 + 20) M ∧ ∃ y1 : Int, r9 = vJ y1 ∧ AW l G mX7_neededShift (d + 1) 0 0 Q 8 [vR a0, vJ y1, vU, vI 0] [] 0 0 H1)) : AW l G mX7_neededShift (d + 1) 0 0 Q 0 [vR a0, vU, vU, vU] [] 0 0 H := by
  refine a_aload_n dX7_neededShift_0 rfl rfl ?_
  refine a_iconst dX7_neededShift_1 ⟨by decide, by decide⟩ ?_
  refine a_callV dX7_neededShift_2 cw_X7_neededShift_2 (as := [vI 4]) rfl rfl (kRun_0 h_r0) (Nat.le_refl _) (Nat.le_of_ble_eq_true rfl) (nocov rfl) (Nat.le_of_ble_eq_true rfl) (Nat.le_of_ble_eq_true rfl) (CL.mono h (fun r9 H1 h => ?_))
  obtain ⟨h_r0_1, hSr0_20_1, y1, e9, h⟩ := h
  rw [e9]
  show AW l G mX7_neededShift (d + 1) 0 0 Q 5 [vR a0, vU, vU, vU] [vJ y1] 0 0 H1
  refine a_lstore_n dX7_neededShift_5 rfl (Nat.le_of_ble_eq_true rfl) (ls' := [vR a0, vJ y1, vU, vU]) rfl ?_
  refine a_iconst dX7_neededShift_6 ⟨by decide, by decide⟩ ?_
  refine a_istore_n dX7_neededShift_7 rfl (Nat.le_of_ble_eq_true rfl) (ls' := [vR a0, vJ y1, vU, vI 0]) rfl ?_
  exact h

set_option maxRecDepth 20000 in
theorem s_X7_neededShift_8 {l : Launch} {G : GT} {d : Nat} {Q : AV → AH → Prop} {H : AH} {a0 x1 x3 : Int} {M : Row} (hS : SK H (a0 + 20) M) (h_r0 : Lay LRun H a0) (h : (4 ≤ x3 → Q (vI 4) H) ∧ (x3 < 4 → CL l G mX7_costWithReach d 0 0 [vR a0, vI x3] H (fun r9 H1 => Lay LRun H1 a0 ∧ SK H1 (a0 + 20) M ∧ ∃ y1 : Int, r9 = vJ y1 ∧ (x1 < y1 → (-2147483648 ≤ x3 + 1 ∧ x3 + 1 ≤ 2147483647) ∧ AW l G mX7_neededShift (d + 1) 0 0 Q 8 [vR a0, vJ x1, vU, vI (x3 + 1)] [] 0 0 H1) ∧ (y1 ≤ x1 → Q (vI x3) H1)))) : AW l G mX7_neededShift (d + 1) 0 0 Q 8 [vR a0, vJ x1, vU, vI x3] [] 0 0 H := by
  refine a_iload_n dX7_neededShift_8 rfl rfl ?_
  refine a_iconst dX7_neededShift_9 ⟨by decide, by decide⟩ ?_
  refine a_icmp_ge dX7_neededShift_10 (tgt := 31) rfl (fun c10 => ?_) (fun c10 => ?_)
  · replace h := h.1 c10
    refine a_iconst dX7_neededShift_31 ⟨by decide, by decide⟩ ?_
    exact a_iret dX7_neededShift_32 rfl (Nat.le_of_ble_eq_true rfl) (Nat.le_of_ble_eq_true rfl) h
  · replace h := h.2 c10
    refine a_aload_n dX7_neededShift_13 rfl rfl ?_
    refine a_iload_n dX7_neededShift_14 rfl rfl ?_
    refine a_callV dX7_neededShift_15 cw_X7_neededShift_15 (as := [vI x3]) rfl rfl (kRun_0 h_r0) (Nat.le_refl _) (Nat.le_of_ble_eq_true rfl) (nocov rfl) (Nat.le_of_ble_eq_true rfl) (Nat.le_of_ble_eq_true rfl) (CL.mono h (fun r9 H1 h => ?_))
    obtain ⟨h_r0_1, hSr0_20_1, y1, e9, h⟩ := h
    rw [e9]
    show AW l G mX7_neededShift (d + 1) 0 0 Q 18 [vR a0, vJ x1, vU, vI x3] [vJ y1] 0 0 H1
    refine a_lload_n dX7_neededShift_18 rfl rfl ?_
    refine a_lcmp_gt dX7_neededShift_19 dX7_neededShift_20 (tgt := 25) rfl (fun c19 => ?_) (fun c19 => ?_)
    · replace h := h.1 c19
      obtain ⟨q25_0, h⟩ := h
      refine a_iinc dX7_neededShift_25 rfl (Nat.le_of_ble_eq_true rfl) (by decide) q25_0 (ls' := [vR a0, vJ x1, vU, vI (x3 + 1)]) rfl ?_
      refine a_goto dX7_neededShift_28 (tgt := 8) rfl ?_
      exact h
    · replace h := h.2 c19
      refine a_iload_n dX7_neededShift_23 rfl rfl ?_
      exact a_iret dX7_neededShift_24 rfl (Nat.le_of_ble_eq_true rfl) (Nat.le_of_ble_eq_true rfl) h


theorem dX7_costIfAssigned_0 : decode cX7_costIfAssigned 0 = .ok (.aload_n 0, 1) := by decide +kernel
theorem dX7_costIfAssigned_1 : decode cX7_costIfAssigned 1 = .ok (.iload_n 1, 1) := by decide +kernel
theorem dX7_costIfAssigned_2 : decode cX7_costIfAssigned 2 = .ok (.invokevirtual 99, 3) := by decide +kernel
theorem dX7_costIfAssigned_5 : decode cX7_costIfAssigned 5 = .ok (.aload_n 0, 1) := by decide +kernel
theorem dX7_costIfAssigned_6 : decode cX7_costIfAssigned 6 = .ok (.iload_n 2, 1) := by decide +kernel
theorem dX7_costIfAssigned_7 : decode cX7_costIfAssigned 7 = .ok (.invokevirtual 160, 3) := by decide +kernel
theorem dX7_costIfAssigned_10 : decode cX7_costIfAssigned 10 = .ok (.aload_n 0, 1) := by decide +kernel
theorem dX7_costIfAssigned_11 : decode cX7_costIfAssigned 11 = .ok (.iload_n 1, 1) := by decide +kernel
theorem dX7_costIfAssigned_12 : decode cX7_costIfAssigned 12 = .ok (.iload_n 2, 1) := by decide +kernel
theorem dX7_costIfAssigned_13 : decode cX7_costIfAssigned 13 = .ok (.invokevirtual 163, 3) := by decide +kernel
theorem dX7_costIfAssigned_16 : decode cX7_costIfAssigned 16 = .ok (.istore_n 3, 1) := by decide +kernel
theorem dX7_costIfAssigned_17 : decode cX7_costIfAssigned 17 = .ok (.iload_n 3, 1) := by decide +kernel
theorem dX7_costIfAssigned_18 : decode cX7_costIfAssigned 18 = .ok (.ifCond .eq 6, 3) := by decide +kernel
theorem dX7_costIfAssigned_21 : decode cX7_costIfAssigned 21 = .ok (.iload_n 3, 1) := by decide +kernel
theorem dX7_costIfAssigned_22 : decode cX7_costIfAssigned 22 = .ok (.i2l, 1) := by decide +kernel
theorem dX7_costIfAssigned_23 : decode cX7_costIfAssigned 23 = .ok (.lreturn, 1) := by decide +kernel
theorem dX7_costIfAssigned_24 : decode cX7_costIfAssigned 24 = .ok (.aload_n 0, 1) := by decide +kernel
theorem dX7_costIfAssigned_25 : decode cX7_costIfAssigned 25 = .ok (.iload_n 1, 1) := by decide +kernel
theorem dX7_costIfAssigned_26 : decode cX7_costIfAssigned 26 = .ok (.iload_n 2, 1) := by decide +kernel
theorem dX7_costIfAssigned_27 : decode cX7_costIfAssigned 27 = .ok (.invokevirtual 264, 3) := by decide +kernel
theorem dX7_costIfAssigned_30 : decode cX7_costIfAssigned 30 = .ok (.lreturn, 1) := by decide +kernel
set_option maxRecDepth 20000 in
theorem s_X7_costIfAssigned_0 {l : Launch} {G : GT} {d : Nat} {Q : AV → AH → Prop} {H : AH} {a0 x1 x2 : Int} (hG : GX l G) {M : Row} (hS : SK H (a0 + 20) M) (h_r0 : Lay LRun H a0) (h : (¬ (fl M x1) → Q (vT 1) H) ∧ (fl M x1 → (¬ (rl M x2) → Q (vT 1) H) ∧ (rl M x2 → (fl M x1) ∧ (0 ≤ x2 ∧ x2 < 3) ∧ ((refuM M x1 x2) = 0 → CL l G mX7_costMoved d 0 0 [vR a0, vI x1, vI x2] H (fun r9 H1 => Lay LRun H1 a0 ∧ SK H1 (a0 + 20) M ∧ ∃ y1 : Int, r9 = vJ y1 ∧ Q (vJ y1) H1)) ∧ (¬ (refuM M x1 x2) = 0 → Q (vJ (refuM M x1 x2)) H)))) (hd : 6 ≤ d := by omega) : AW l G mX7_costIfAssigned (d + 1) 4 24 Q 0 [vR a0, vI x1, vI x2, vU] [] 0 0 H := by
  refine a_aload_n dX7_costIfAssigned_0 rfl rfl ?_
  refine a_iload_n dX7_costIfAssigned_1 rfl rfl ?_
  refine a_callV dX7_costIfAssigned_2 cw_X7_costIfAssigned_2 (as := [vI x1]) rfl rfl (kRun_0 h_r0) (Nat.le_refl _) (Nat.le_of_ble_eq_true rfl) (nocov rfl) (Nat.le_of_ble_eq_true rfl) (Nat.le_of_ble_eq_true rfl) (CL.mono (k_checkFlight hG h_r0 hS) (fun r9 H9 h9 => ?_))
  obtain ⟨h8, h9⟩ := h9
  rw [h8]
  rcases h9 with ⟨c2, e9⟩ | ⟨c2, e9⟩
  · rw [e9]; exact h.1 c2
  rw [e9]
  replace h := h.2 c2
  show AW l G mX7_costIfAssigned (d + 1) 4 24 Q 5 [vR a0, vI x1, vI x2, vU] [] 1 6 H
  refine a_aload_n dX7_costIfAssigned_5 rfl rfl ?_
  refine a_iload_n dX7_costIfAssigned_6 rfl rfl ?_
  refine a_callV dX7_costIfAssigned_7 cw_X7_costIfAssigned_7 (as := [vI x2]) rfl rfl (kRun_0 h_r0) (Nat.le_refl _) (Nat.le_of_ble_eq_true rfl) (nocov rfl) (Nat.le_of_ble_eq_true rfl) (Nat.le_of_ble_eq_true rfl) (CL.mono (k_checkRunway hG h_r0 hS) (fun r9 H9 h9 => ?_))
  obtain ⟨h8, h9⟩ := h9
  rw [h8]
  rcases h9 with ⟨c7, e9⟩ | ⟨c7, e9⟩
  · rw [e9]; exact h.1 c7
  rw [e9]
  replace h := h.2 c7
  show AW l G mX7_costIfAssigned (d + 1) 4 24 Q 10 [vR a0, vI x1, vI x2, vU] [] 2 12 H
  refine a_aload_n dX7_costIfAssigned_10 rfl rfl ?_
  refine a_iload_n dX7_costIfAssigned_11 rfl rfl ?_
  refine a_iload_n dX7_costIfAssigned_12 rfl rfl ?_
  obtain ⟨q13_0, h⟩ := h
  obtain ⟨q13_1, h⟩ := h
  refine a_callV dX7_costIfAssigned_13 cw_X7_costIfAssigned_13 (as := [vI x1, vI x2]) rfl rfl (kRun_0 h_r0) (Nat.le_refl _) (Nat.le_of_ble_eq_true rfl) (nocov rfl) (Nat.le_of_ble_eq_true rfl) (Nat.le_of_ble_eq_true rfl) (CL.mono (k_errorOfMove hS h_r0 q13_0 q13_1) (fun r9 H9 h9 => ?_))
  rw [h9.1, h9.2]
  show AW l G mX7_costIfAssigned (d + 1) 4 24 Q 16 [vR a0, vI x1, vI x2, vU] [vI (refuM M x1 x2)] 2 12 H
  refine a_istore_n dX7_costIfAssigned_16 rfl (Nat.le_of_ble_eq_true rfl) (ls' := [vR a0, vI x1, vI x2, vI (refuM M x1 x2)]) rfl ?_
  refine a_iload_n dX7_costIfAssigned_17 rfl rfl ?_
  refine a_if_eq dX7_costIfAssigned_18 (tgt := 24) rfl (fun c18 => ?_) (fun c18 => ?_)
  · replace h := h.1 c18
    refine a_aload_n dX7_costIfAssigned_24 rfl rfl ?_
    refine a_iload_n dX7_costIfAssigned_25 rfl rfl ?_
    refine a_iload_n dX7_costIfAssigned_26 rfl rfl ?_
    refine a_callV dX7_costIfAssigned_27 cw_X7_costIfAssigned_27 (as := [vI x1, vI x2]) rfl rfl (kRun_0 h_r0) (Nat.le_refl _) (Nat.le_of_ble_eq_true rfl) (nocov rfl) (Nat.le_of_ble_eq_true rfl) (Nat.le_of_ble_eq_true rfl) (CL.mono h (fun r9 H1 h => ?_))
    obtain ⟨h_r0_1, hSr0_20_1, y1, e9, h⟩ := h
    rw [e9]
    show AW l G mX7_costIfAssigned (d + 1) 4 24 Q 30 [vR a0, vI x1, vI x2, vI (refuM M x1 x2)] [vJ y1] 2 12 H1
    exact a_lret dX7_costIfAssigned_30 rfl (Nat.le_of_ble_eq_true rfl) (Nat.le_of_ble_eq_true rfl) h
  · replace h := h.2 c18
    refine a_iload_n dX7_costIfAssigned_21 rfl rfl ?_
    refine a_i2l dX7_costIfAssigned_22 ?_
    exact a_lret dX7_costIfAssigned_23 rfl (Nat.le_of_ble_eq_true rfl) (Nat.le_of_ble_eq_true rfl) h


theorem dX7_bestRunway_0 : decode cX7_bestRunway 0 = .ok (.aload_n 0, 1) := by decide +kernel
theorem dX7_bestRunway_1 : decode cX7_bestRunway 1 = .ok (.iload_n 1, 1) := by decide +kernel
theorem dX7_bestRunway_2 : decode cX7_bestRunway 2 = .ok (.invokevirtual 99, 3) := by decide +kernel
theorem dX7_bestRunway_5 : decode cX7_bestRunway 5 = .ok (.aload_n 0, 1) := by decide +kernel
theorem dX7_bestRunway_6 : decode cX7_bestRunway 6 = .ok (.getfield 26, 3) := by decide +kernel
theorem dX7_bestRunway_9 : decode cX7_bestRunway 9 = .ok (.getfield 170, 3) := by decide +kernel
theorem dX7_bestRunway_12 : decode cX7_bestRunway 12 = .ok (.iload_n 1, 1) := by decide +kernel
theorem dX7_bestRunway_13 : decode cX7_bestRunway 13 = .ok (.iaload, 1) := by decide +kernel
theorem dX7_bestRunway_14 : decode cX7_bestRunway 14 = .ok (.ifCond .eq 6, 3) := by decide +kernel
theorem dX7_bestRunway_17 : decode cX7_bestRunway 17 = .ok (.bipush (-3), 2) := by decide +kernel
theorem dX7_bestRunway_19 : decode cX7_bestRunway 19 = .ok (.ireturn, 1) := by decide +kernel
theorem dX7_bestRunway_20 : decode cX7_bestRunway 20 = .ok (.aload_n 0, 1) := by decide +kernel
theorem dX7_bestRunway_21 : decode cX7_bestRunway 21 = .ok (.getfield 26, 3) := by decide +kernel
theorem dX7_bestRunway_24 : decode cX7_bestRunway 24 = .ok (.getfield 157, 3) := by decide +kernel
theorem dX7_bestRunway_27 : decode cX7_bestRunway 27 = .ok (.iload_n 1, 1) := by decide +kernel
theorem dX7_bestRunway_28 : decode cX7_bestRunway 28 = .ok (.iaload, 1) := by decide +kernel
theorem dX7_bestRunway_29 : decode cX7_bestRunway 29 = .ok (.istore_n 2, 1) := by decide +kernel
theorem dX7_bestRunway_30 : decode cX7_bestRunway 30 = .ok (.aload_n 0, 1) := by decide +kernel
theorem dX7_bestRunway_31 : decode cX7_bestRunway 31 = .ok (.getfield 19, 3) := by decide +kernel
theorem dX7_bestRunway_34 : decode cX7_bestRunway 34 = .ok (.aload_n 0, 1) := by decide +kernel
theorem dX7_bestRunway_35 : decode cX7_bestRunway 35 = .ok (.getfield 26, 3) := by decide +kernel
theorem dX7_bestRunway_38 : decode cX7_bestRunway 38 = .ok (.invokevirtual 210, 3) := by decide +kernel
theorem dX7_bestRunway_41 : decode cX7_bestRunway 41 = .ok (.lstore_n 3, 1) := by decide +kernel
theorem dX7_bestRunway_42 : decode cX7_bestRunway 42 = .ok (.iconst 0, 1) := by decide +kernel
theorem dX7_bestRunway_43 : decode cX7_bestRunway 43 = .ok (.istore 5, 2) := by decide +kernel
theorem dX7_bestRunway_45 : decode cX7_bestRunway 45 = .ok (.iload 5, 2) := by decide +kernel
theorem dX7_bestRunway_47 : decode cX7_bestRunway 47 = .ok (.aload_n 0, 1) := by decide +kernel
theorem dX7_bestRunway_48 : decode cX7_bestRunway 48 = .ok (.getfield 26, 3) := by decide +kernel
theorem dX7_bestRunway_51 : decode cX7_bestRunway 51 = .ok (.getfield 90, 3) := by decide +kernel
theorem dX7_bestRunway_54 : decode cX7_bestRunway 54 = .ok (.getfield 94, 3) := by decide +kernel
theorem dX7_bestRunway_57 : decode cX7_bestRunway 57 = .ok (.if_icmp .ge 74, 3) := by decide +kernel
theorem dX7_bestRunway_60 : decode cX7_bestRunway 60 = .ok (.iload 5, 2) := by decide +kernel
theorem dX7_bestRunway_62 : decode cX7_bestRunway 62 = .ok (.aload_n 0, 1) := by decide +kernel
theorem dX7_bestRunway_63 : decode cX7_bestRunway 63 = .ok (.getfield 26, 3) := by decide +kernel
theorem dX7_bestRunway_66 : decode cX7_bestRunway 66 = .ok (.getfield 157, 3) := by decide +kernel
theorem dX7_bestRunway_69 : decode cX7_bestRunway 69 = .ok (.iload_n 1, 1) := by decide +kernel
theorem dX7_bestRunway_70 : decode cX7_bestRunway 70 = .ok (.iaload, 1) := by decide +kernel
theorem dX7_bestRunway_71 : decode cX7_bestRunway 71 = .ok (.if_icmp .eq 54, 3) := by decide +kernel
theorem dX7_bestRunway_74 : decode cX7_bestRunway 74 = .ok (.aload_n 0, 1) := by decide +kernel
theorem dX7_bestRunway_75 : decode cX7_bestRunway 75 = .ok (.getfield 26, 3) := by decide +kernel
theorem dX7_bestRunway_78 : decode cX7_bestRunway 78 = .ok (.getfield 77, 3) := by decide +kernel
theorem dX7_bestRunway_81 : decode cX7_bestRunway 81 = .ok (.iload_n 1, 1) := by decide +kernel
theorem dX7_bestRunway_82 : decode cX7_bestRunway 82 = .ok (.iload 5, 2) := by decide +kernel
theorem dX7_bestRunway_84 : decode cX7_bestRunway 84 = .ok (.invokevirtual 267, 3) := by decide +kernel
theorem dX7_bestRunway_87 : decode cX7_bestRunway 87 = .ok (.ifCond .eq 38, 3) := by decide +kernel
theorem dX7_bestRunway_90 : decode cX7_bestRunway 90 = .ok (.aload_n 0, 1) := by decide +kernel
theorem dX7_bestRunway_91 : decode cX7_bestRunway 91 = .ok (.iload_n 1, 1) := by decide +kernel
theorem dX7_bestRunway_92 : decode cX7_bestRunway 92 = .ok (.iload 5, 2) := by decide +kernel
theorem dX7_bestRunway_94 : decode cX7_bestRunway 94 = .ok (.invokevirtual 264, 3) := by decide +kernel
theorem dX7_bestRunway_97 : decode cX7_bestRunway 97 = .ok (.lstore 6, 2) := by decide +kernel
theorem dX7_bestRunway_99 : decode cX7_bestRunway 99 = .ok (.lload 6, 2) := by decide +kernel
theorem dX7_bestRunway_101 : decode cX7_bestRunway 101 = .ok (.lload_n 3, 1) := by decide +kernel
theorem dX7_bestRunway_102 : decode cX7_bestRunway 102 = .ok (.lcmp, 1) := by decide +kernel
theorem dX7_bestRunway_103 : decode cX7_bestRunway 103 = .ok (.ifCond .lt 16, 3) := by decide +kernel
theorem dX7_bestRunway_106 : decode cX7_bestRunway 106 = .ok (.lload 6, 2) := by decide +kernel
theorem dX7_bestRunway_108 : decode cX7_bestRunway 108 = .ok (.lload_n 3, 1) := by decide +kernel
theorem dX7_bestRunway_109 : decode cX7_bestRunway 109 = .ok (.lcmp, 1) := by decide +kernel
theorem dX7_bestRunway_110 : decode cX7_bestRunway 110 = .ok (.ifCond .ne 15, 3) := by decide +kernel
theorem dX7_bestRunway_113 : decode cX7_bestRunway 113 = .ok (.iload 5, 2) := by decide +kernel
theorem dX7_bestRunway_115 : decode cX7_bestRunway 115 = .ok (.iload_n 2, 1) := by decide +kernel
theorem dX7_bestRunway_116 : decode cX7_bestRunway 116 = .ok (.if_icmp .ge 9, 3) := by decide +kernel
theorem dX7_bestRunway_119 : decode cX7_bestRunway 119 = .ok (.lload 6, 2) := by decide +kernel
theorem dX7_bestRunway_121 : decode cX7_bestRunway 121 = .ok (.lstore_n 3, 1) := by decide +kernel
theorem dX7_bestRunway_122 : decode cX7_bestRunway 122 = .ok (.iload 5, 2) := by decide +kernel
theorem dX7_bestRunway_124 : decode cX7_bestRunway 124 = .ok (.istore_n 2, 1) := by decide +kernel
theorem dX7_bestRunway_125 : decode cX7_bestRunway 125 = .ok (.iinc 5 1, 3) := by decide +kernel
theorem dX7_bestRunway_128 : decode cX7_bestRunway 128 = .ok (.goto (-83), 3) := by decide +kernel
theorem dX7_bestRunway_131 : decode cX7_bestRunway 131 = .ok (.iload_n 2, 1) := by decide +kernel
theorem dX7_bestRunway_132 : decode cX7_bestRunway 132 = .ok (.ireturn, 1) := by decide +kernel
set_option maxRecDepth 20000 in
theorem s_X7_bestRunway_0 {l : Launch} {G : GT} {d : Nat} {Q : AV → AH → Prop} {H : AH} {a0 x1 : Int} (hG : GX l G) {M : Row} (hS : SK H (a0 + 20) M) (h_r0 : Lay LRun H a0) (h : (¬ (fl M x1) → Q (vT 1) H) ∧ (fl M x1 → (0 ≤ x1 ∧ x1 < M 6) ∧ ((ofM M x1 7) = 0 → CL l G mX2_wholeCost d 0 0 [vR (a0 + 3), vR (a0 + 20)] H (fun r9 H1 => Lay LRun H1 a0 ∧ SK H1 (a0 + 20) M ∧ ∃ y1 : Int, r9 = vJ y1 ∧ AW l G mX7_bestRunway (d + 1) 4 24 Q 45 [vR a0, vI x1, vI (ofM M x1 6), vJ y1, vU, vI 0, vU, vU] [] 1 6 H1)) ∧ (¬ (ofM M x1 7) = 0 → Q (vI (-3)) H))) (hd : 6 ≤ d := by omega) : AW l G mX7_bestRunway (d + 1) 4 24 Q 0 [vR a0, vI x1, vU, vU, vU, vU, vU, vU] [] 0 0 H := by
  refine a_aload_n dX7_bestRunway_0 rfl rfl ?_
  refine a_iload_n dX7_bestRunway_1 rfl rfl ?_
  refine a_callV dX7_bestRunway_2 cw_X7_bestRunway_2 (as := [vI x1]) rfl rfl (kRun_0 h_r0) (Nat.le_refl _) (Nat.le_of_ble_eq_true rfl) (nocov rfl) (Nat.le_of_ble_eq_true rfl) (Nat.le_of_ble_eq_true rfl) (CL.mono (k_checkFlight hG h_r0 hS) (fun r9 H9 h9 => ?_))
  obtain ⟨h8, h9⟩ := h9
  rw [h8]
  rcases h9 with ⟨c2, e9⟩ | ⟨c2, e9⟩
  · rw [e9]; exact h.1 c2
  rw [e9]
  replace h := h.2 c2
  show AW l G mX7_bestRunway (d + 1) 4 24 Q 5 [vR a0, vI x1, vU, vU, vU, vU, vU, vU] [] 1 6 H
  refine a_aload_n dX7_bestRunway_5 rfl rfl ?_
  refine a_getR dX7_bestRunway_6 fw_RX7_26 rfl rfl (kRun_0 h_r0) (rRun_0_2 h_r0) ?_
  refine a_getR dX7_bestRunway_9 fw_RX7_170 rfl rfl (kRun_20 h_r0) (rRun_20_4 h_r0) ?_
  refine a_iload_n dX7_bestRunway_12 rfl rfl ?_
  obtain ⟨q13_0, h⟩ := h
  refine b_ialdV dX7_bestRunway_13 (kRun_35 h_r0) (nRun_35 h_r0) (sk_lt hS q13_0) (sko (by omega) (sk_15 hS q13_0)) ?_
  refine a_if_eq dX7_bestRunway_14 (tgt := 20) rfl (fun c14 => ?_) (fun c14 => ?_)
  · replace h := h.1 c14
    refine a_aload_n dX7_bestRunway_20 rfl rfl ?_
    refine a_getR dX7_bestRunway_21 fw_RX7_26 rfl rfl (kRun_0 h_r0) (rRun_0_2 h_r0) ?_
    refine a_getR dX7_bestRunway_24 fw_RX7_157 rfl rfl (kRun_20 h_r0) (rRun_20_3 h_r0) ?_
    refine a_iload_n dX7_bestRunway_27 rfl rfl ?_
    refine b_ialdV dX7_bestRunway_28 (kRun_34 h_r0) (nRun_34 h_r0) (sk_lt hS q13_0) (sko (by omega) (sk_14 hS q13_0)) ?_
    refine a_istore_n dX7_bestRunway_29 rfl (Nat.le_of_ble_eq_true rfl) (ls' := [vR a0, vI x1, vI (ofM M x1 6), vU, vU, vU, vU, vU]) rfl ?_
    refine a_aload_n dX7_bestRunway_30 rfl rfl ?_
    refine a_getR dX7_bestRunway_31 fw_RX7_19 rfl rfl (kRun_0 h_r0) (rRun_0_1 h_r0) ?_
    refine a_aload_n dX7_bestRunway_34 rfl rfl ?_
    refine a_getR dX7_bestRunway_35 fw_RX7_26 rfl rfl (kRun_0 h_r0) (rRun_0_2 h_r0) ?_
    refine a_callV dX7_bestRunway_38 cw_X7_bestRunway_38 (as := [vR (a0 + 20)]) rfl rfl (kRun_3 h_r0) (Nat.le_refl _) (Nat.le_of_ble_eq_true rfl) (nocov rfl) (Nat.le_of_ble_eq_true rfl) (Nat.le_of_ble_eq_true rfl) (CL.mono h (fun r9 H1 h => ?_))
    obtain ⟨h_r0_1, hSr0_20_1, y1, e9, h⟩ := h
    rw [e9]
    show AW l G mX7_bestRunway (d + 1) 4 24 Q 41 [vR a0, vI x1, vI (ofM M x1 6), vU, vU, vU, vU, vU] [vJ y1] 1 6 H1
    refine a_lstore_n dX7_bestRunway_41 rfl (Nat.le_of_ble_eq_true rfl) (ls' := [vR a0, vI x1, vI (ofM M x1 6), vJ y1, vU, vU, vU, vU]) rfl ?_
    refine a_iconst dX7_bestRunway_42 ⟨by decide, by decide⟩ ?_
    refine a_istore dX7_bestRunway_43 (Nat.le_of_ble_eq_true rfl) (ls' := [vR a0, vI x1, vI (ofM M x1 6), vJ y1, vU, vI 0, vU, vU]) rfl ?_
    exact h
  · replace h := h.2 c14
    refine a_bipush dX7_bestRunway_17 (by decide) ?_
    exact a_iret dX7_bestRunway_19 rfl (Nat.le_of_ble_eq_true rfl) (Nat.le_of_ble_eq_true rfl) h

set_option maxRecDepth 20000 in
theorem s_X7_bestRunway_45 {l : Launch} {G : GT} {d : Nat} {Q : AV → AH → Prop} {H : AH} {a0 x1 x2 x3 x5 : Int} (hG : GX l G) {M : Row} (hS : SK H (a0 + 20) M) (h_r0 : Lay LRun H a0) (h : ((M 5) ≤ x5 → Q (vI x2) H) ∧ (x5 < (M 5) → (0 ≤ x1 ∧ x1 < M 6) ∧ (x5 = (ofM M x1 6) → (-2147483648 ≤ x5 + 1 ∧ x5 + 1 ≤ 2147483647) ∧ AW l G mX7_bestRunway (d + 1) 4 24 Q 45 [vR a0, vI x1, vI x2, vJ x3, vU, vI (x5 + 1), vU, vU] [] 1 6 H) ∧ (¬ x5 = (ofM M x1 6) → (fl M x1) ∧ (0 ≤ x5 ∧ x5 < 3) ∧ (¬ (shr (ofM M x1 5) x5 % 2 = 1) → (-2147483648 ≤ x5 + 1 ∧ x5 + 1 ≤ 2147483647) ∧ AW l G mX7_bestRunway (d + 1) 4 24 Q 45 [vR a0, vI x1, vI x2, vJ x3, vU, vI (x5 + 1), vU, vU] [] 1 6 H) ∧ (shr (ofM M x1 5) x5 % 2 = 1 → CL l G mX7_costMoved d 0 0 [vR a0, vI x1, vI x5] H (fun r9 H1 => Lay LRun H1 a0 ∧ SK H1 (a0 + 20) M ∧ ∃ y1 : Int, r9 = vJ y1 ∧ (y1 < x3 → (-2147483648 ≤ x5 + 1 ∧ x5 + 1 ≤ 2147483647) ∧ AW l G mX7_bestRunway (d + 1) 4 24 Q 45 [vR a0, vI x1, vI x5, vJ y1, vU, vI (x5 + 1), vU, vU] [] 1 6 H1) ∧ (x3 ≤ y1 → (¬ y1 = x3 → (-2147483648 ≤ x5 + 1 ∧ x5 + 1 ≤ 2147483647) ∧ AW l G mX7_bestRunway (d + 1) 4 24 Q 45 [vR a0, vI x1, vI x2, vJ x3, vU, vI (x5 + 1), vU, vU] [] 1 6 H1) ∧ (y1 = x3 → (x2 ≤ x5 → (-2147483648 ≤ x5 + 1 ∧ x5 + 1 ≤ 2147483647) ∧ AW l G mX7_bestRunway (d + 1) 4 24 Q 45 [vR a0, vI x1, vI x2, vJ x3, vU, vI (x5 + 1), vU, vU] [] 1 6 H1) ∧ (x5 < x2 → (-2147483648 ≤ x5 + 1 ∧ x5 + 1 ≤ 2147483647) ∧ AW l G mX7_bestRunway (d + 1) 4 24 Q 45 [vR a0, vI x1, vI x5, vJ y1, vU, vI (x5 + 1), vU, vU] [] 1 6 H1)))))))) (hd : 6 ≤ d := by omega) : AW l G mX7_bestRunway (d + 1) 4 24 Q 45 [vR a0, vI x1, vI x2, vJ x3, vU, vI x5, vU, vU] [] 1 6 H := by
  refine a_iload dX7_bestRunway_45 rfl ?_
  refine a_aload_n dX7_bestRunway_47 rfl rfl ?_
  refine a_getR dX7_bestRunway_48 fw_RX7_26 rfl rfl (kRun_0 h_r0) (rRun_0_2 h_r0) ?_
  refine a_getR dX7_bestRunway_51 fw_RX7_90 rfl rfl (kRun_20 h_r0) (rRun_20_0 h_r0) ?_
  refine a_getIV dX7_bestRunway_54 fw_RX7_94 rfl rfl (kRun_21 h_r0) (sko (by omega) (sk_1_0 hS)) ?_
  refine a_icmp_ge dX7_bestRunway_57 (tgt := 131) rfl (fun c57 => ?_) (fun c57 => ?_)
  · replace h := h.1 c57
    refine a_iload_n dX7_bestRunway_131 rfl rfl ?_
    exact a_iret dX7_bestRunway_132 rfl (Nat.le_of_ble_eq_true rfl) (Nat.le_of_ble_eq_true rfl) h
  · replace h := h.2 c57
    refine a_iload dX7_bestRunway_60 rfl ?_
    refine a_aload_n dX7_bestRunway_62 rfl rfl ?_
    refine a_getR dX7_bestRunway_63 fw_RX7_26 rfl rfl (kRun_0 h_r0) (rRun_0_2 h_r0) ?_
    refine a_getR dX7_bestRunway_66 fw_RX7_157 rfl rfl (kRun_20 h_r0) (rRun_20_3 h_r0) ?_
    refine a_iload_n dX7_bestRunway_69 rfl rfl ?_
    obtain ⟨q70_0, h⟩ := h
    refine b_ialdV dX7_bestRunway_70 (kRun_34 h_r0) (nRun_34 h_r0) (sk_lt hS q70_0) (sko (by omega) (sk_14 hS q70_0)) ?_
    refine a_icmp_eq dX7_bestRunway_71 (tgt := 125) rfl (fun c71 => ?_) (fun c71 => ?_)
    · replace h := h.1 c71
      obtain ⟨q125_0, h⟩ := h
      refine a_iinc dX7_bestRunway_125 rfl (Nat.le_of_ble_eq_true rfl) (by decide) q125_0 (ls' := [vR a0, vI x1, vI x2, vJ x3, vU, vI (x5 + 1), vU, vU]) rfl ?_
      refine a_goto dX7_bestRunway_128 (tgt := 45) rfl ?_
      exact h
    · replace h := h.2 c71
      refine a_aload_n dX7_bestRunway_74 rfl rfl ?_
      refine a_getR dX7_bestRunway_75 fw_RX7_26 rfl rfl (kRun_0 h_r0) (rRun_0_2 h_r0) ?_
      refine a_getR dX7_bestRunway_78 fw_RX7_77 rfl rfl (kRun_20 h_r0) (rRun_20_1 h_r0) ?_
      refine a_iload_n dX7_bestRunway_81 rfl rfl ?_
      refine a_iload dX7_bestRunway_82 rfl ?_
      obtain ⟨q84_0, h⟩ := h
      obtain ⟨q84_1, h⟩ := h
      refine a_callV dX7_bestRunway_84 cw_X7_bestRunway_84 (as := [vI x1, vI x5]) rfl rfl (kRun_25 h_r0) (Nat.le_refl _) (Nat.le_of_ble_eq_true rfl) (nocov rfl) (Nat.le_of_ble_eq_true rfl) (Nat.le_of_ble_eq_true rfl) (CL.mono (CL.arg (a' := (a0 + 20) + 5) (by omega) (k_mayUse hS  q84_0 q84_1)) (fun r9 H9 h9 => ?_))
      rw [h9.1, h9.2]
      show AW l G mX7_bestRunway (d + 1) 4 24 Q 87 [vR a0, vI x1, vI x2, vJ x3, vU, vI x5, vU, vU] [vI (bi (decide (shr (ofM M x1 5) x5 % 2 = 1)))] 1 6 H
      refine a_if_eq dX7_bestRunway_87 (tgt := 125) rfl (fun c87 => ?_) (fun c87 => ?_)
      · replace h := h.1 (bi_0 c87)
        obtain ⟨q125_0, h⟩ := h
        refine a_iinc dX7_bestRunway_125 rfl (Nat.le_of_ble_eq_true rfl) (by decide) q125_0 (ls' := [vR a0, vI x1, vI x2, vJ x3, vU, vI (x5 + 1), vU, vU]) rfl ?_
        refine a_goto dX7_bestRunway_128 (tgt := 45) rfl ?_
        exact h
      · replace h := h.2 (bi_1 c87)
        refine a_aload_n dX7_bestRunway_90 rfl rfl ?_
        refine a_iload_n dX7_bestRunway_91 rfl rfl ?_
        refine a_iload dX7_bestRunway_92 rfl ?_
        refine a_callV dX7_bestRunway_94 cw_X7_bestRunway_94 (as := [vI x1, vI x5]) rfl rfl (kRun_0 h_r0) (Nat.le_refl _) (Nat.le_of_ble_eq_true rfl) (nocov rfl) (Nat.le_of_ble_eq_true rfl) (Nat.le_of_ble_eq_true rfl) (CL.mono h (fun r9 H1 h => ?_))
        obtain ⟨h_r0_1, hSr0_20_1, y1, e9, h⟩ := h
        rw [e9]
        show AW l G mX7_bestRunway (d + 1) 4 24 Q 97 [vR a0, vI x1, vI x2, vJ x3, vU, vI x5, vU, vU] [vJ y1] 1 6 H1
        refine a_lstore dX7_bestRunway_97 (Nat.le_of_ble_eq_true rfl) (ls' := [vR a0, vI x1, vI x2, vJ x3, vU, vI x5, vJ y1, vU]) rfl ?_
        refine a_lload dX7_bestRunway_99 rfl ?_
        refine a_lload_n dX7_bestRunway_101 rfl rfl ?_
        refine a_lcmp_lt dX7_bestRunway_102 dX7_bestRunway_103 (tgt := 119) rfl (fun c102 => ?_) (fun c102 => ?_)
        · replace h := h.1 c102
          refine a_lload dX7_bestRunway_119 rfl ?_
          refine a_lstore_n dX7_bestRunway_121 rfl (Nat.le_of_ble_eq_true rfl) (ls' := [vR a0, vI x1, vI x2, vJ y1, vU, vI x5, vJ y1, vU]) rfl ?_
          refine a_iload dX7_bestRunway_122 rfl ?_
          refine a_istore_n dX7_bestRunway_124 rfl (Nat.le_of_ble_eq_true rfl) (ls' := [vR a0, vI x1, vI x5, vJ y1, vU, vI x5, vJ y1, vU]) rfl ?_
          obtain ⟨q125_0, h⟩ := h
          refine a_iinc dX7_bestRunway_125 rfl (Nat.le_of_ble_eq_true rfl) (by decide) q125_0 (ls' := [vR a0, vI x1, vI x5, vJ y1, vU, vI (x5 + 1), vJ y1, vU]) rfl ?_
          refine a_goto dX7_bestRunway_128 (tgt := 45) rfl ?_
          exact a_weak (wk_e (wk_e (wk_e (wk_e (wk_u (wk_e (wk_u (wk_u wk_n)))))))) h
        · replace h := h.2 c102
          refine a_lload dX7_bestRunway_106 rfl ?_
          refine a_lload_n dX7_bestRunway_108 rfl rfl ?_
          refine a_lcmp_ne dX7_bestRunway_109 dX7_bestRunway_110 (tgt := 125) rfl (fun c109 => ?_) (fun c109 => ?_)
          · replace h := h.1 c109
            obtain ⟨q125_0, h⟩ := h
            refine a_iinc dX7_bestRunway_125 rfl (Nat.le_of_ble_eq_true rfl) (by decide) q125_0 (ls' := [vR a0, vI x1, vI x2, vJ x3, vU, vI (x5 + 1), vJ y1, vU]) rfl ?_
            refine a_goto dX7_bestRunway_128 (tgt := 45) rfl ?_
            exact a_weak (wk_e (wk_e (wk_e (wk_e (wk_u (wk_e (wk_u (wk_u wk_n)))))))) h
          · replace h := h.2 c109
            refine a_iload dX7_bestRunway_113 rfl ?_
            refine a_iload_n dX7_bestRunway_115 rfl rfl ?_
            refine a_icmp_ge dX7_bestRunway_116 (tgt := 125) rfl (fun c116 => ?_) (fun c116 => ?_)
            · replace h := h.1 c116
              obtain ⟨q125_0, h⟩ := h
              refine a_iinc dX7_bestRunway_125 rfl (Nat.le_of_ble_eq_true rfl) (by decide) q125_0 (ls' := [vR a0, vI x1, vI x2, vJ x3, vU, vI (x5 + 1), vJ y1, vU]) rfl ?_
              refine a_goto dX7_bestRunway_128 (tgt := 45) rfl ?_
              exact a_weak (wk_e (wk_e (wk_e (wk_e (wk_u (wk_e (wk_u (wk_u wk_n)))))))) h
            · replace h := h.2 c116
              refine a_lload dX7_bestRunway_119 rfl ?_
              refine a_lstore_n dX7_bestRunway_121 rfl (Nat.le_of_ble_eq_true rfl) (ls' := [vR a0, vI x1, vI x2, vJ y1, vU, vI x5, vJ y1, vU]) rfl ?_
              refine a_iload dX7_bestRunway_122 rfl ?_
              refine a_istore_n dX7_bestRunway_124 rfl (Nat.le_of_ble_eq_true rfl) (ls' := [vR a0, vI x1, vI x5, vJ y1, vU, vI x5, vJ y1, vU]) rfl ?_
              obtain ⟨q125_0, h⟩ := h
              refine a_iinc dX7_bestRunway_125 rfl (Nat.le_of_ble_eq_true rfl) (by decide) q125_0 (ls' := [vR a0, vI x1, vI x5, vJ y1, vU, vI (x5 + 1), vJ y1, vU]) rfl ?_
              refine a_goto dX7_bestRunway_128 (tgt := 45) rfl ?_
              exact a_weak (wk_e (wk_e (wk_e (wk_e (wk_u (wk_e (wk_u (wk_u wk_n)))))))) h


theorem dX7_moveBest_0 : decode cX7_moveBest 0 = .ok (.aload_n 0, 1) := by decide +kernel
theorem dX7_moveBest_1 : decode cX7_moveBest 1 = .ok (.getfield 19, 3) := by decide +kernel
theorem dX7_moveBest_4 : decode cX7_moveBest 4 = .ok (.aload_n 0, 1) := by decide +kernel
theorem dX7_moveBest_5 : decode cX7_moveBest 5 = .ok (.getfield 26, 3) := by decide +kernel
theorem dX7_moveBest_8 : decode cX7_moveBest 8 = .ok (.invokevirtual 210, 3) := by decide +kernel
theorem dX7_moveBest_11 : decode cX7_moveBest 11 = .ok (.lstore_n 1, 1) := by decide +kernel
theorem dX7_moveBest_12 : decode cX7_moveBest 12 = .ok (.iconst (-1), 1) := by decide +kernel
theorem dX7_moveBest_13 : decode cX7_moveBest 13 = .ok (.istore_n 3, 1) := by decide +kernel
theorem dX7_moveBest_14 : decode cX7_moveBest 14 = .ok (.iconst (-1), 1) := by decide +kernel
theorem dX7_moveBest_15 : decode cX7_moveBest 15 = .ok (.istore 4, 2) := by decide +kernel
theorem dX7_moveBest_17 : decode cX7_moveBest 17 = .ok (.iconst 0, 1) := by decide +kernel
theorem dX7_moveBest_18 : decode cX7_moveBest 18 = .ok (.istore 5, 2) := by decide +kernel
theorem dX7_moveBest_20 : decode cX7_moveBest 20 = .ok (.iload 5, 2) := by decide +kernel
theorem dX7_moveBest_22 : decode cX7_moveBest 22 = .ok (.aload_n 0, 1) := by decide +kernel
theorem dX7_moveBest_23 : decode cX7_moveBest 23 = .ok (.getfield 26, 3) := by decide +kernel
theorem dX7_moveBest_26 : decode cX7_moveBest 26 = .ok (.getfield 77, 3) := by decide +kernel
theorem dX7_moveBest_29 : decode cX7_moveBest 29 = .ok (.getfield 81, 3) := by decide +kernel
theorem dX7_moveBest_32 : decode cX7_moveBest 32 = .ok (.if_icmp .ge 111, 3) := by decide +kernel
theorem dX7_moveBest_35 : decode cX7_moveBest 35 = .ok (.iconst 0, 1) := by decide +kernel
theorem dX7_moveBest_36 : decode cX7_moveBest 36 = .ok (.istore 6, 2) := by decide +kernel
theorem dX7_moveBest_38 : decode cX7_moveBest 38 = .ok (.iload 6, 2) := by decide +kernel
theorem dX7_moveBest_40 : decode cX7_moveBest 40 = .ok (.aload_n 0, 1) := by decide +kernel
theorem dX7_moveBest_41 : decode cX7_moveBest 41 = .ok (.getfield 26, 3) := by decide +kernel
theorem dX7_moveBest_44 : decode cX7_moveBest 44 = .ok (.getfield 90, 3) := by decide +kernel
theorem dX7_moveBest_47 : decode cX7_moveBest 47 = .ok (.getfield 94, 3) := by decide +kernel
theorem dX7_moveBest_50 : decode cX7_moveBest 50 = .ok (.if_icmp .ge 87, 3) := by decide +kernel
theorem dX7_moveBest_53 : decode cX7_moveBest 53 = .ok (.iload 6, 2) := by decide +kernel
theorem dX7_moveBest_55 : decode cX7_moveBest 55 = .ok (.aload_n 0, 1) := by decide +kernel
theorem dX7_moveBest_56 : decode cX7_moveBest 56 = .ok (.getfield 26, 3) := by decide +kernel
theorem dX7_moveBest_59 : decode cX7_moveBest 59 = .ok (.getfield 157, 3) := by decide +kernel
theorem dX7_moveBest_62 : decode cX7_moveBest 62 = .ok (.iload 5, 2) := by decide +kernel
theorem dX7_moveBest_64 : decode cX7_moveBest 64 = .ok (.iaload, 1) := by decide +kernel
theorem dX7_moveBest_65 : decode cX7_moveBest 65 = .ok (.if_icmp .eq 66, 3) := by decide +kernel
theorem dX7_moveBest_68 : decode cX7_moveBest 68 = .ok (.aload_n 0, 1) := by decide +kernel
theorem dX7_moveBest_69 : decode cX7_moveBest 69 = .ok (.iload 5, 2) := by decide +kernel
theorem dX7_moveBest_71 : decode cX7_moveBest 71 = .ok (.iload 6, 2) := by decide +kernel
theorem dX7_moveBest_73 : decode cX7_moveBest 73 = .ok (.invokevirtual 163, 3) := by decide +kernel
theorem dX7_moveBest_76 : decode cX7_moveBest 76 = .ok (.ifCond .ne 55, 3) := by decide +kernel
theorem dX7_moveBest_79 : decode cX7_moveBest 79 = .ok (.aload_n 0, 1) := by decide +kernel
theorem dX7_moveBest_80 : decode cX7_moveBest 80 = .ok (.getfield 30, 3) := by decide +kernel
theorem dX7_moveBest_83 : decode cX7_moveBest 83 = .ok (.aload_n 0, 1) := by decide +kernel
theorem dX7_moveBest_84 : decode cX7_moveBest 84 = .ok (.getfield 26, 3) := by decide +kernel
theorem dX7_moveBest_87 : decode cX7_moveBest 87 = .ok (.invokevirtual 73, 3) := by decide +kernel
theorem dX7_moveBest_90 : decode cX7_moveBest 90 = .ok (.aload_n 0, 1) := by decide +kernel
theorem dX7_moveBest_91 : decode cX7_moveBest 91 = .ok (.getfield 30, 3) := by decide +kernel
theorem dX7_moveBest_94 : decode cX7_moveBest 94 = .ok (.iload 5, 2) := by decide +kernel
theorem dX7_moveBest_96 : decode cX7_moveBest 96 = .ok (.iload 6, 2) := by decide +kernel
theorem dX7_moveBest_98 : decode cX7_moveBest 98 = .ok (.invokevirtual 166, 3) := by decide +kernel
theorem dX7_moveBest_101 : decode cX7_moveBest 101 = .ok (.aload_n 0, 1) := by decide +kernel
theorem dX7_moveBest_102 : decode cX7_moveBest 102 = .ok (.getfield 19, 3) := by decide +kernel
theorem dX7_moveBest_105 : decode cX7_moveBest 105 = .ok (.aload_n 0, 1) := by decide +kernel
theorem dX7_moveBest_106 : decode cX7_moveBest 106 = .ok (.getfield 30, 3) := by decide +kernel
theorem dX7_moveBest_109 : decode cX7_moveBest 109 = .ok (.invokevirtual 210, 3) := by decide +kernel
theorem dX7_moveBest_112 : decode cX7_moveBest 112 = .ok (.lstore 7, 2) := by decide +kernel
theorem dX7_moveBest_114 : decode cX7_moveBest 114 = .ok (.lload 7, 2) := by decide +kernel
theorem dX7_moveBest_116 : decode cX7_moveBest 116 = .ok (.lload_n 1, 1) := by decide +kernel
theorem dX7_moveBest_117 : decode cX7_moveBest 117 = .ok (.lcmp, 1) := by decide +kernel
theorem dX7_moveBest_118 : decode cX7_moveBest 118 = .ok (.ifCond .ge 13, 3) := by decide +kernel
theorem dX7_moveBest_121 : decode cX7_moveBest 121 = .ok (.lload 7, 2) := by decide +kernel
theorem dX7_moveBest_123 : decode cX7_moveBest 123 = .ok (.lstore_n 1, 1) := by decide +kernel
theorem dX7_moveBest_124 : decode cX7_moveBest 124 = .ok (.iload 5, 2) := by decide +kernel
theorem dX7_moveBest_126 : decode cX7_moveBest 126 = .ok (.istore_n 3, 1) := by decide +kernel
theorem dX7_moveBest_127 : decode cX7_moveBest 127 = .ok (.iload 6, 2) := by decide +kernel
theorem dX7_moveBest_129 : decode cX7_moveBest 129 = .ok (.istore 4, 2) := by decide +kernel
theorem dX7_moveBest_131 : decode cX7_moveBest 131 = .ok (.iinc 6 1, 3) := by decide +kernel
theorem dX7_moveBest_134 : decode cX7_moveBest 134 = .ok (.goto (-96), 3) := by decide +kernel
theorem dX7_moveBest_137 : decode cX7_moveBest 137 = .ok (.iinc 5 1, 3) := by decide +kernel
theorem dX7_moveBest_140 : decode cX7_moveBest 140 = .ok (.goto (-120), 3) := by decide +kernel
theorem dX7_moveBest_143 : decode cX7_moveBest 143 = .ok (.iload_n 3, 1) := by decide +kernel
theorem dX7_moveBest_144 : decode cX7_moveBest 144 = .ok (.iconst (-1), 1) := by decide +kernel
theorem dX7_moveBest_145 : decode cX7_moveBest 145 = .ok (.if_icmp .ne 5, 3) := by decide +kernel
theorem dX7_moveBest_148 : decode cX7_moveBest 148 = .ok (.iconst 0, 1) := by decide +kernel
theorem dX7_moveBest_149 : decode cX7_moveBest 149 = .ok (.ireturn, 1) := by decide +kernel
theorem dX7_moveBest_150 : decode cX7_moveBest 150 = .ok (.aload_n 0, 1) := by decide +kernel
theorem dX7_moveBest_151 : decode cX7_moveBest 151 = .ok (.getfield 26, 3) := by decide +kernel
theorem dX7_moveBest_154 : decode cX7_moveBest 154 = .ok (.iload_n 3, 1) := by decide +kernel
theorem dX7_moveBest_155 : decode cX7_moveBest 155 = .ok (.iload 4, 2) := by decide +kernel
theorem dX7_moveBest_157 : decode cX7_moveBest 157 = .ok (.invokevirtual 166, 3) := by decide +kernel
theorem dX7_moveBest_160 : decode cX7_moveBest 160 = .ok (.iconst 1, 1) := by decide +kernel
theorem dX7_moveBest_161 : decode cX7_moveBest 161 = .ok (.ireturn, 1) := by decide +kernel
set_option maxRecDepth 20000 in
theorem s_X7_moveBest_0 {l : Launch} {G : GT} {d : Nat} {Q : AV → AH → Prop} {H : AH} {a0 : Int} {M : Row} (hS : SK H (a0 + 20) M) (h_r0 : Lay LRun H a0) (h : CL l G mX2_wholeCost d 0 0 [vR (a0 + 3), vR (a0 + 20)] H (fun r9 H1 => Lay LRun H1 a0 ∧ SK H1 (a0 + 20) M ∧ ∃ y1 : Int, r9 = vJ y1 ∧ AW l G mX7_moveBest (d + 1) 0 0 Q 20 [vR a0, vJ y1, vU, vI (-1), vI (-1), vI 0, vU, vU, vU] [] 0 0 H1)) (hd : 1 ≤ d := by omega) : AW l G mX7_moveBest (d + 1) 0 0 Q 0 [vR a0, vU, vU, vU, vU, vU, vU, vU, vU] [] 0 0 H := by
  refine a_aload_n dX7_moveBest_0 rfl rfl ?_
  refine a_getR dX7_moveBest_1 fw_RX7_19 rfl rfl (kRun_0 h_r0) (rRun_0_1 h_r0) ?_
  refine a_aload_n dX7_moveBest_4 rfl rfl ?_
  refine a_getR dX7_moveBest_5 fw_RX7_26 rfl rfl (kRun_0 h_r0) (rRun_0_2 h_r0) ?_
  refine a_callV dX7_moveBest_8 cw_X7_moveBest_8 (as := [vR (a0 + 20)]) rfl rfl (kRun_3 h_r0) (Nat.le_refl _) (Nat.le_of_ble_eq_true rfl) (nocov rfl) (Nat.le_of_ble_eq_true rfl) (Nat.le_of_ble_eq_true rfl) (CL.mono h (fun r9 H1 h => ?_))
  obtain ⟨h_r0_1, hSr0_20_1, y1, e9, h⟩ := h
  rw [e9]
  show AW l G mX7_moveBest (d + 1) 0 0 Q 11 [vR a0, vU, vU, vU, vU, vU, vU, vU, vU] [vJ y1] 0 0 H1
  refine a_lstore_n dX7_moveBest_11 rfl (Nat.le_of_ble_eq_true rfl) (ls' := [vR a0, vJ y1, vU, vU, vU, vU, vU, vU, vU]) rfl ?_
  refine a_iconst dX7_moveBest_12 ⟨by decide, by decide⟩ ?_
  refine a_istore_n dX7_moveBest_13 rfl (Nat.le_of_ble_eq_true rfl) (ls' := [vR a0, vJ y1, vU, vI (-1), vU, vU, vU, vU, vU]) rfl ?_
  refine a_iconst dX7_moveBest_14 ⟨by decide, by decide⟩ ?_
  refine a_istore dX7_moveBest_15 (Nat.le_of_ble_eq_true rfl) (ls' := [vR a0, vJ y1, vU, vI (-1), vI (-1), vU, vU, vU, vU]) rfl ?_
  refine a_iconst dX7_moveBest_17 ⟨by decide, by decide⟩ ?_
  refine a_istore dX7_moveBest_18 (Nat.le_of_ble_eq_true rfl) (ls' := [vR a0, vJ y1, vU, vI (-1), vI (-1), vI 0, vU, vU, vU]) rfl ?_
  exact h

set_option maxRecDepth 20000 in
theorem s_X7_moveBest_20 {l : Launch} {G : GT} {d : Nat} {Q : AV → AH → Prop} {H : AH} {a0 x1 x3 x4 x5 : Int} {M : Row} (hS : SK H (a0 + 20) M) (h_r0 : Lay LRun H a0) (h : ((M 6) ≤ x5 → (¬ x3 = (-1) → CL l G mX6_moveTo d 0 0 [vR (a0 + 20), vI x3, vI x4] H (fun r9 H1 => ∃ M1 : Row, Lay LRun H1 a0 ∧ SK H1 (a0 + 20) M1 ∧ r9 = vV ∧ Q (vI 1) H1)) ∧ (x3 = (-1) → Q (vI 0) H)) ∧ (x5 < (M 6) → AW l G mX7_moveBest (d + 1) 0 0 Q 38 [vR a0, vJ x1, vU, vI x3, vI x4, vI x5, vI 0, vU, vU] [] 0 0 H)) (hd : 1 ≤ d := by omega) : AW l G mX7_moveBest (d + 1) 0 0 Q 20 [vR a0, vJ x1, vU, vI x3, vI x4, vI x5, vU, vU, vU] [] 0 0 H := by
  refine a_iload dX7_moveBest_20 rfl ?_
  refine a_aload_n dX7_moveBest_22 rfl rfl ?_
  refine a_getR dX7_moveBest_23 fw_RX7_26 rfl rfl (kRun_0 h_r0) (rRun_0_2 h_r0) ?_
  refine a_getR dX7_moveBest_26 fw_RX7_77 rfl rfl (kRun_20 h_r0) (rRun_20_1 h_r0) ?_
  refine a_getIV dX7_moveBest_29 fw_RX7_81 rfl rfl (kRun_25 h_r0) (sko (by omega) (sk_5_0 hS)) ?_
  refine a_icmp_ge dX7_moveBest_32 (tgt := 143) rfl (fun c32 => ?_) (fun c32 => ?_)
  · replace h := h.1 c32
    refine a_iload_n dX7_moveBest_143 rfl rfl ?_
    refine a_iconst dX7_moveBest_144 ⟨by decide, by decide⟩ ?_
    refine a_icmp_ne dX7_moveBest_145 (tgt := 150) rfl (fun c145 => ?_) (fun c145 => ?_)
    · replace h := h.1 c145
      refine a_aload_n dX7_moveBest_150 rfl rfl ?_
      refine a_getR dX7_moveBest_151 fw_RX7_26 rfl rfl (kRun_0 h_r0) (rRun_0_2 h_r0) ?_
      refine a_iload_n dX7_moveBest_154 rfl rfl ?_
      refine a_iload dX7_moveBest_155 rfl ?_
      refine a_callV dX7_moveBest_157 cw_X7_moveBest_157 (as := [vI x3, vI x4]) rfl rfl (kRun_20 h_r0) (Nat.le_refl _) (Nat.le_of_ble_eq_true rfl) (nocov rfl) (Nat.le_of_ble_eq_true rfl) (Nat.le_of_ble_eq_true rfl) (CL.mono h (fun r9 H1 h => ?_))
      obtain ⟨M1, h_r0_1, hSr0_20_1, e9, h⟩ := h
      rw [e9]
      show AW l G mX7_moveBest (d + 1) 0 0 Q 160 [vR a0, vJ x1, vU, vI x3, vI x4, vI x5, vU, vU, vU] [] 0 0 H1
      refine a_iconst dX7_moveBest_160 ⟨by decide, by decide⟩ ?_
      exact a_zret dX7_moveBest_161 rfl (by decide) (Nat.le_of_ble_eq_true rfl) (Nat.le_of_ble_eq_true rfl) h
    · replace h := h.2 c145
      refine a_iconst dX7_moveBest_148 ⟨by decide, by decide⟩ ?_
      exact a_zret dX7_moveBest_149 rfl (by decide) (Nat.le_of_ble_eq_true rfl) (Nat.le_of_ble_eq_true rfl) h
  · replace h := h.2 c32
    refine a_iconst dX7_moveBest_35 ⟨by decide, by decide⟩ ?_
    refine a_istore dX7_moveBest_36 (Nat.le_of_ble_eq_true rfl) (ls' := [vR a0, vJ x1, vU, vI x3, vI x4, vI x5, vI 0, vU, vU]) rfl ?_
    exact h

set_option maxRecDepth 20000 in
theorem s_X7_moveBest_38 {l : Launch} {G : GT} {d : Nat} {Q : AV → AH → Prop} {H : AH} {a0 x1 x3 x4 x5 x6 : Int} {M : Row} (hS : SK H (a0 + 20) M) (h_r0 : Lay LRun H a0) (h : ((M 5) ≤ x6 → (-2147483648 ≤ x5 + 1 ∧ x5 + 1 ≤ 2147483647) ∧ AW l G mX7_moveBest (d + 1) 0 0 Q 20 [vR a0, vJ x1, vU, vI x3, vI x4, vI (x5 + 1), vU, vU, vU] [] 0 0 H) ∧ (x6 < (M 5) → (0 ≤ x5 ∧ x5 < M 6) ∧ (x6 = (ofM M x5 6) → (-2147483648 ≤ x6 + 1 ∧ x6 + 1 ≤ 2147483647) ∧ AW l G mX7_moveBest (d + 1) 0 0 Q 38 [vR a0, vJ x1, vU, vI x3, vI x4, vI x5, vI (x6 + 1), vU, vU] [] 0 0 H) ∧ (¬ x6 = (ofM M x5 6) → (fl M x5) ∧ (0 ≤ x6 ∧ x6 < 3) ∧ (¬ (refuM M x5 x6) = 0 → (-2147483648 ≤ x6 + 1 ∧ x6 + 1 ≤ 2147483647) ∧ AW l G mX7_moveBest (d + 1) 0 0 Q 38 [vR a0, vJ x1, vU, vI x3, vI x4, vI x5, vI (x6 + 1), vU, vU] [] 0 0 H) ∧ ((refuM M x5 x6) = 0 → CL l G mX6_copyFrom d 0 0 [vR (a0 + 43), vR (a0 + 20)] H (fun r9 H1 => ∃ M1 : Row, Lay LRun H1 a0 ∧ SK H1 (a0 + 20) M ∧ SK H1 (a0 + 43) M1 ∧ r9 = vV ∧ CL l G mX6_moveTo d 0 0 [vR (a0 + 43), vI x5, vI x6] H1 (fun r9 H2 => ∃ M2 : Row, Lay LRun H2 a0 ∧ SK H2 (a0 + 20) M ∧ SK H2 (a0 + 43) M2 ∧ r9 = vV ∧ CL l G mX2_wholeCost d 0 0 [vR (a0 + 3), vR (a0 + 43)] H2 (fun r9 H3 => Lay LRun H3 a0 ∧ SK H3 (a0 + 20) M ∧ SK H3 (a0 + 43) M2 ∧ ∃ y3 : Int, r9 = vJ y3 ∧ (x1 ≤ y3 → (-2147483648 ≤ x6 + 1 ∧ x6 + 1 ≤ 2147483647) ∧ AW l G mX7_moveBest (d + 1) 0 0 Q 38 [vR a0, vJ x1, vU, vI x3, vI x4, vI x5, vI (x6 + 1), vU, vU] [] 0 0 H3) ∧ (y3 < x1 → (-2147483648 ≤ x6 + 1 ∧ x6 + 1 ≤ 2147483647) ∧ AW l G mX7_moveBest (d + 1) 0 0 Q 38 [vR a0, vJ y3, vU, vI x5, vI x6, vI x5, vI (x6 + 1), vU, vU] [] 0 0 H3)))))))) (hd : 1 ≤ d := by omega) : AW l G mX7_moveBest (d + 1) 0 0 Q 38 [vR a0, vJ x1, vU, vI x3, vI x4, vI x5, vI x6, vU, vU] [] 0 0 H := by
  refine a_iload dX7_moveBest_38 rfl ?_
  refine a_aload_n dX7_moveBest_40 rfl rfl ?_
  refine a_getR dX7_moveBest_41 fw_RX7_26 rfl rfl (kRun_0 h_r0) (rRun_0_2 h_r0) ?_
  refine a_getR dX7_moveBest_44 fw_RX7_90 rfl rfl (kRun_20 h_r0) (rRun_20_0 h_r0) ?_
  refine a_getIV dX7_moveBest_47 fw_RX7_94 rfl rfl (kRun_21 h_r0) (sko (by omega) (sk_1_0 hS)) ?_
  refine a_icmp_ge dX7_moveBest_50 (tgt := 137) rfl (fun c50 => ?_) (fun c50 => ?_)
  · replace h := h.1 c50
    obtain ⟨q137_0, h⟩ := h
    refine a_iinc dX7_moveBest_137 rfl (Nat.le_of_ble_eq_true rfl) (by decide) q137_0 (ls' := [vR a0, vJ x1, vU, vI x3, vI x4, vI (x5 + 1), vI x6, vU, vU]) rfl ?_
    refine a_goto dX7_moveBest_140 (tgt := 20) rfl ?_
    exact a_weak (wk_e (wk_e (wk_u (wk_e (wk_e (wk_e (wk_u (wk_u (wk_u wk_n))))))))) h
  · replace h := h.2 c50
    refine a_iload dX7_moveBest_53 rfl ?_
    refine a_aload_n dX7_moveBest_55 rfl rfl ?_
    refine a_getR dX7_moveBest_56 fw_RX7_26 rfl rfl (kRun_0 h_r0) (rRun_0_2 h_r0) ?_
    refine a_getR dX7_moveBest_59 fw_RX7_157 rfl rfl (kRun_20 h_r0) (rRun_20_3 h_r0) ?_
    refine a_iload dX7_moveBest_62 rfl ?_
    obtain ⟨q64_0, h⟩ := h
    refine b_ialdV dX7_moveBest_64 (kRun_34 h_r0) (nRun_34 h_r0) (sk_lt hS q64_0) (sko (by omega) (sk_14 hS q64_0)) ?_
    refine a_icmp_eq dX7_moveBest_65 (tgt := 131) rfl (fun c65 => ?_) (fun c65 => ?_)
    · replace h := h.1 c65
      obtain ⟨q131_0, h⟩ := h
      refine a_iinc dX7_moveBest_131 rfl (Nat.le_of_ble_eq_true rfl) (by decide) q131_0 (ls' := [vR a0, vJ x1, vU, vI x3, vI x4, vI x5, vI (x6 + 1), vU, vU]) rfl ?_
      refine a_goto dX7_moveBest_134 (tgt := 38) rfl ?_
      exact h
    · replace h := h.2 c65
      refine a_aload_n dX7_moveBest_68 rfl rfl ?_
      refine a_iload dX7_moveBest_69 rfl ?_
      refine a_iload dX7_moveBest_71 rfl ?_
      obtain ⟨q73_0, h⟩ := h
      obtain ⟨q73_1, h⟩ := h
      refine a_callV dX7_moveBest_73 cw_X7_moveBest_73 (as := [vI x5, vI x6]) rfl rfl (kRun_0 h_r0) (Nat.le_refl _) (Nat.le_of_ble_eq_true rfl) (nocov rfl) (Nat.le_of_ble_eq_true rfl) (Nat.le_of_ble_eq_true rfl) (CL.mono (k_errorOfMove hS h_r0 q73_0 q73_1) (fun r9 H9 h9 => ?_))
      rw [h9.1, h9.2]
      show AW l G mX7_moveBest (d + 1) 0 0 Q 76 [vR a0, vJ x1, vU, vI x3, vI x4, vI x5, vI x6, vU, vU] [vI (refuM M x5 x6)] 0 0 H
      refine a_if_ne dX7_moveBest_76 (tgt := 131) rfl (fun c76 => ?_) (fun c76 => ?_)
      · replace h := h.1 c76
        obtain ⟨q131_0, h⟩ := h
        refine a_iinc dX7_moveBest_131 rfl (Nat.le_of_ble_eq_true rfl) (by decide) q131_0 (ls' := [vR a0, vJ x1, vU, vI x3, vI x4, vI x5, vI (x6 + 1), vU, vU]) rfl ?_
        refine a_goto dX7_moveBest_134 (tgt := 38) rfl ?_
        exact h
      · replace h := h.2 c76
        refine a_aload_n dX7_moveBest_79 rfl rfl ?_
        refine a_getR dX7_moveBest_80 fw_RX7_30 rfl rfl (kRun_0 h_r0) (rRun_0_3 h_r0) ?_
        refine a_aload_n dX7_moveBest_83 rfl rfl ?_
        refine a_getR dX7_moveBest_84 fw_RX7_26 rfl rfl (kRun_0 h_r0) (rRun_0_2 h_r0) ?_
        refine a_callV dX7_moveBest_87 cw_X7_moveBest_87 (as := [vR (a0 + 20)]) rfl rfl (kRun_43 h_r0) (Nat.le_refl _) (Nat.le_of_ble_eq_true rfl) (nocov rfl) (Nat.le_of_ble_eq_true rfl) (Nat.le_of_ble_eq_true rfl) (CL.mono h (fun r9 H1 h => ?_))
        obtain ⟨M1, h_r0_1, hSr0_20_1, hSr0_43_1, e9, h⟩ := h
        rw [e9]
        show AW l G mX7_moveBest (d + 1) 0 0 Q 90 [vR a0, vJ x1, vU, vI x3, vI x4, vI x5, vI x6, vU, vU] [] 0 0 H1
        refine a_aload_n dX7_moveBest_90 rfl rfl ?_
        refine a_getR dX7_moveBest_91 fw_RX7_30 rfl rfl (kRun_0 h_r0_1) (rRun_0_3 h_r0_1) ?_
        refine a_iload dX7_moveBest_94 rfl ?_
        refine a_iload dX7_moveBest_96 rfl ?_
        refine a_callV dX7_moveBest_98 cw_X7_moveBest_98 (as := [vI x5, vI x6]) rfl rfl (kRun_43 h_r0_1) (Nat.le_refl _) (Nat.le_of_ble_eq_true rfl) (nocov rfl) (Nat.le_of_ble_eq_true rfl) (Nat.le_of_ble_eq_true rfl) (CL.mono h (fun r9 H2 h => ?_))
        obtain ⟨M2, h_r0_2, hSr0_20_2, hSr0_43_2, e9, h⟩ := h
        rw [e9]
        show AW l G mX7_moveBest (d + 1) 0 0 Q 101 [vR a0, vJ x1, vU, vI x3, vI x4, vI x5, vI x6, vU, vU] [] 0 0 H2
        refine a_aload_n dX7_moveBest_101 rfl rfl ?_
        refine a_getR dX7_moveBest_102 fw_RX7_19 rfl rfl (kRun_0 h_r0_2) (rRun_0_1 h_r0_2) ?_
        refine a_aload_n dX7_moveBest_105 rfl rfl ?_
        refine a_getR dX7_moveBest_106 fw_RX7_30 rfl rfl (kRun_0 h_r0_2) (rRun_0_3 h_r0_2) ?_
        refine a_callV dX7_moveBest_109 cw_X7_moveBest_109 (as := [vR (a0 + 43)]) rfl rfl (kRun_3 h_r0_2) (Nat.le_refl _) (Nat.le_of_ble_eq_true rfl) (nocov rfl) (Nat.le_of_ble_eq_true rfl) (Nat.le_of_ble_eq_true rfl) (CL.mono h (fun r9 H3 h => ?_))
        obtain ⟨h_r0_3, hSr0_20_3, hSr0_43_3, y3, e9, h⟩ := h
        rw [e9]
        show AW l G mX7_moveBest (d + 1) 0 0 Q 112 [vR a0, vJ x1, vU, vI x3, vI x4, vI x5, vI x6, vU, vU] [vJ y3] 0 0 H3
        refine a_lstore dX7_moveBest_112 (Nat.le_of_ble_eq_true rfl) (ls' := [vR a0, vJ x1, vU, vI x3, vI x4, vI x5, vI x6, vJ y3, vU]) rfl ?_
        refine a_lload dX7_moveBest_114 rfl ?_
        refine a_lload_n dX7_moveBest_116 rfl rfl ?_
        refine a_lcmp_ge dX7_moveBest_117 dX7_moveBest_118 (tgt := 131) rfl (fun c117 => ?_) (fun c117 => ?_)
        · replace h := h.1 c117
          obtain ⟨q131_0, h⟩ := h
          refine a_iinc dX7_moveBest_131 rfl (Nat.le_of_ble_eq_true rfl) (by decide) q131_0 (ls' := [vR a0, vJ x1, vU, vI x3, vI x4, vI x5, vI (x6 + 1), vJ y3, vU]) rfl ?_
          refine a_goto dX7_moveBest_134 (tgt := 38) rfl ?_
          exact a_weak (wk_e (wk_e (wk_u (wk_e (wk_e (wk_e (wk_e (wk_u (wk_u wk_n))))))))) h
        · replace h := h.2 c117
          refine a_lload dX7_moveBest_121 rfl ?_
          refine a_lstore_n dX7_moveBest_123 rfl (Nat.le_of_ble_eq_true rfl) (ls' := [vR a0, vJ y3, vU, vI x3, vI x4, vI x5, vI x6, vJ y3, vU]) rfl ?_
          refine a_iload dX7_moveBest_124 rfl ?_
          refine a_istore_n dX7_moveBest_126 rfl (Nat.le_of_ble_eq_true rfl) (ls' := [vR a0, vJ y3, vU, vI x5, vI x4, vI x5, vI x6, vJ y3, vU]) rfl ?_
          refine a_iload dX7_moveBest_127 rfl ?_
          refine a_istore dX7_moveBest_129 (Nat.le_of_ble_eq_true rfl) (ls' := [vR a0, vJ y3, vU, vI x5, vI x6, vI x5, vI x6, vJ y3, vU]) rfl ?_
          obtain ⟨q131_0, h⟩ := h
          refine a_iinc dX7_moveBest_131 rfl (Nat.le_of_ble_eq_true rfl) (by decide) q131_0 (ls' := [vR a0, vJ y3, vU, vI x5, vI x6, vI x5, vI (x6 + 1), vJ y3, vU]) rfl ?_
          refine a_goto dX7_moveBest_134 (tgt := 38) rfl ?_
          exact a_weak (wk_e (wk_e (wk_u (wk_e (wk_e (wk_e (wk_e (wk_u (wk_u wk_n))))))))) h


theorem dX7_aroundCost_0 : decode cX7_aroundCost 0 = .ok (.aload_n 0, 1) := by decide +kernel
theorem dX7_aroundCost_1 : decode cX7_aroundCost 1 = .ok (.iload_n 1, 1) := by decide +kernel
theorem dX7_aroundCost_2 : decode cX7_aroundCost 2 = .ok (.invokevirtual 99, 3) := by decide +kernel
theorem dX7_aroundCost_5 : decode cX7_aroundCost 5 = .ok (.aload_n 0, 1) := by decide +kernel
theorem dX7_aroundCost_6 : decode cX7_aroundCost 6 = .ok (.iload_n 1, 1) := by decide +kernel
theorem dX7_aroundCost_7 : decode cX7_aroundCost 7 = .ok (.invokevirtual 180, 3) := by decide +kernel
theorem dX7_aroundCost_10 : decode cX7_aroundCost 10 = .ok (.istore_n 2, 1) := by decide +kernel
theorem dX7_aroundCost_11 : decode cX7_aroundCost 11 = .ok (.iload_n 2, 1) := by decide +kernel
theorem dX7_aroundCost_12 : decode cX7_aroundCost 12 = .ok (.ifCond .eq 6, 3) := by decide +kernel
theorem dX7_aroundCost_15 : decode cX7_aroundCost 15 = .ok (.iload_n 2, 1) := by decide +kernel
theorem dX7_aroundCost_16 : decode cX7_aroundCost 16 = .ok (.i2l, 1) := by decide +kernel
theorem dX7_aroundCost_17 : decode cX7_aroundCost 17 = .ok (.lreturn, 1) := by decide +kernel
theorem dX7_aroundCost_18 : decode cX7_aroundCost 18 = .ok (.aload_n 0, 1) := by decide +kernel
theorem dX7_aroundCost_19 : decode cX7_aroundCost 19 = .ok (.getfield 19, 3) := by decide +kernel
theorem dX7_aroundCost_22 : decode cX7_aroundCost 22 = .ok (.aload_n 0, 1) := by decide +kernel
theorem dX7_aroundCost_23 : decode cX7_aroundCost 23 = .ok (.getfield 26, 3) := by decide +kernel
theorem dX7_aroundCost_26 : decode cX7_aroundCost 26 = .ok (.invokevirtual 210, 3) := by decide +kernel
theorem dX7_aroundCost_29 : decode cX7_aroundCost 29 = .ok (.lstore_n 3, 1) := by decide +kernel
theorem dX7_aroundCost_30 : decode cX7_aroundCost 30 = .ok (.aload_n 0, 1) := by decide +kernel
theorem dX7_aroundCost_31 : decode cX7_aroundCost 31 = .ok (.getfield 30, 3) := by decide +kernel
theorem dX7_aroundCost_34 : decode cX7_aroundCost 34 = .ok (.aload_n 0, 1) := by decide +kernel
theorem dX7_aroundCost_35 : decode cX7_aroundCost 35 = .ok (.getfield 26, 3) := by decide +kernel
theorem dX7_aroundCost_38 : decode cX7_aroundCost 38 = .ok (.invokevirtual 73, 3) := by decide +kernel
theorem dX7_aroundCost_41 : decode cX7_aroundCost 41 = .ok (.aload_n 0, 1) := by decide +kernel
theorem dX7_aroundCost_42 : decode cX7_aroundCost 42 = .ok (.getfield 30, 3) := by decide +kernel
theorem dX7_aroundCost_45 : decode cX7_aroundCost 45 = .ok (.iload_n 1, 1) := by decide +kernel
theorem dX7_aroundCost_46 : decode cX7_aroundCost 46 = .ok (.invokevirtual 183, 3) := by decide +kernel
theorem dX7_aroundCost_49 : decode cX7_aroundCost 49 = .ok (.aload_n 0, 1) := by decide +kernel
theorem dX7_aroundCost_50 : decode cX7_aroundCost 50 = .ok (.getfield 19, 3) := by decide +kernel
theorem dX7_aroundCost_53 : decode cX7_aroundCost 53 = .ok (.aload_n 0, 1) := by decide +kernel
theorem dX7_aroundCost_54 : decode cX7_aroundCost 54 = .ok (.getfield 30, 3) := by decide +kernel
theorem dX7_aroundCost_57 : decode cX7_aroundCost 57 = .ok (.invokevirtual 210, 3) := by decide +kernel
theorem dX7_aroundCost_60 : decode cX7_aroundCost 60 = .ok (.lload_n 3, 1) := by decide +kernel
theorem dX7_aroundCost_61 : decode cX7_aroundCost 61 = .ok (.lsub, 1) := by decide +kernel
theorem dX7_aroundCost_62 : decode cX7_aroundCost 62 = .ok (.lreturn, 1) := by decide +kernel
set_option maxRecDepth 20000 in
theorem s_X7_aroundCost_0 {l : Launch} {G : GT} {d : Nat} {Q : AV → AH → Prop} {H : AH} {a0 x1 : Int} (hG : GX l G) {M : Row} (hS : SK H (a0 + 20) M) (h_r0 : Lay LRun H a0) (h : (¬ (fl M x1) → Q (vT 1) H) ∧ (fl M x1 → (fl M x1) ∧ ((noarM M x1) = 0 → CL l G mX2_wholeCost d 0 0 [vR (a0 + 3), vR (a0 + 20)] H (fun r9 H1 => Lay LRun H1 a0 ∧ SK H1 (a0 + 20) M ∧ ∃ y1 : Int, r9 = vJ y1 ∧ CL l G mX6_copyFrom d 0 0 [vR (a0 + 43), vR (a0 + 20)] H1 (fun r9 H2 => ∃ M2 : Row, Lay LRun H2 a0 ∧ SK H2 (a0 + 20) M ∧ SK H2 (a0 + 43) M2 ∧ r9 = vV ∧ CL l G mX6_turn d 0 0 [vR (a0 + 43), vI x1] H2 (fun r9 H3 => ∃ M3 : Row, Lay LRun H3 a0 ∧ SK H3 (a0 + 20) M ∧ SK H3 (a0 + 43) M3 ∧ r9 = vV ∧ CL l G mX2_wholeCost d 0 0 [vR (a0 + 3), vR (a0 + 43)] H3 (fun r9 H4 => Lay LRun H4 a0 ∧ SK H4 (a0 + 20) M ∧ SK H4 (a0 + 43) M3 ∧ ∃ y4 : Int, r9 = vJ y4 ∧ (-9223372036854775808 ≤ y4 - y1 ∧ y4 - y1 ≤ 9223372036854775807) ∧ Q (vJ (y4 - y1)) H4))))) ∧ (¬ (noarM M x1) = 0 → Q (vJ (noarM M x1)) H))) (hd : 6 ≤ d := by omega) : AW l G mX7_aroundCost (d + 1) 4 24 Q 0 [vR a0, vI x1, vU, vU, vU] [] 0 0 H := by
  refine a_aload_n dX7_aroundCost_0 rfl rfl ?_
  refine a_iload_n dX7_aroundCost_1 rfl rfl ?_
  refine a_callV dX7_aroundCost_2 cw_X7_aroundCost_2 (as := [vI x1]) rfl rfl (kRun_0 h_r0) (Nat.le_refl _) (Nat.le_of_ble_eq_true rfl) (nocov rfl) (Nat.le_of_ble_eq_true rfl) (Nat.le_of_ble_eq_true rfl) (CL.mono (k_checkFlight hG h_r0 hS) (fun r9 H9 h9 => ?_))
  obtain ⟨h8, h9⟩ := h9
  rw [h8]
  rcases h9 with ⟨c2, e9⟩ | ⟨c2, e9⟩
  · rw [e9]; exact h.1 c2
  rw [e9]
  replace h := h.2 c2
  show AW l G mX7_aroundCost (d + 1) 4 24 Q 5 [vR a0, vI x1, vU, vU, vU] [] 1 6 H
  refine a_aload_n dX7_aroundCost_5 rfl rfl ?_
  refine a_iload_n dX7_aroundCost_6 rfl rfl ?_
  obtain ⟨q7_0, h⟩ := h
  refine a_callV dX7_aroundCost_7 cw_X7_aroundCost_7 (as := [vI x1]) rfl rfl (kRun_0 h_r0) (Nat.le_refl _) (Nat.le_of_ble_eq_true rfl) (nocov rfl) (Nat.le_of_ble_eq_true rfl) (Nat.le_of_ble_eq_true rfl) (CL.mono (k_errorOfTurn hS h_r0 q7_0) (fun r9 H9 h9 => ?_))
  rw [h9.1, h9.2]
  show AW l G mX7_aroundCost (d + 1) 4 24 Q 10 [vR a0, vI x1, vU, vU, vU] [vI (noarM M x1)] 1 6 H
  refine a_istore_n dX7_aroundCost_10 rfl (Nat.le_of_ble_eq_true rfl) (ls' := [vR a0, vI x1, vI (noarM M x1), vU, vU]) rfl ?_
  refine a_iload_n dX7_aroundCost_11 rfl rfl ?_
  refine a_if_eq dX7_aroundCost_12 (tgt := 18) rfl (fun c12 => ?_) (fun c12 => ?_)
  · replace h := h.1 c12
    refine a_aload_n dX7_aroundCost_18 rfl rfl ?_
    refine a_getR dX7_aroundCost_19 fw_RX7_19 rfl rfl (kRun_0 h_r0) (rRun_0_1 h_r0) ?_
    refine a_aload_n dX7_aroundCost_22 rfl rfl ?_
    refine a_getR dX7_aroundCost_23 fw_RX7_26 rfl rfl (kRun_0 h_r0) (rRun_0_2 h_r0) ?_
    refine a_callV dX7_aroundCost_26 cw_X7_aroundCost_26 (as := [vR (a0 + 20)]) rfl rfl (kRun_3 h_r0) (Nat.le_refl _) (Nat.le_of_ble_eq_true rfl) (nocov rfl) (Nat.le_of_ble_eq_true rfl) (Nat.le_of_ble_eq_true rfl) (CL.mono h (fun r9 H1 h => ?_))
    obtain ⟨h_r0_1, hSr0_20_1, y1, e9, h⟩ := h
    rw [e9]
    show AW l G mX7_aroundCost (d + 1) 4 24 Q 29 [vR a0, vI x1, vI (noarM M x1), vU, vU] [vJ y1] 1 6 H1
    refine a_lstore_n dX7_aroundCost_29 rfl (Nat.le_of_ble_eq_true rfl) (ls' := [vR a0, vI x1, vI (noarM M x1), vJ y1, vU]) rfl ?_
    refine a_aload_n dX7_aroundCost_30 rfl rfl ?_
    refine a_getR dX7_aroundCost_31 fw_RX7_30 rfl rfl (kRun_0 h_r0_1) (rRun_0_3 h_r0_1) ?_
    refine a_aload_n dX7_aroundCost_34 rfl rfl ?_
    refine a_getR dX7_aroundCost_35 fw_RX7_26 rfl rfl (kRun_0 h_r0_1) (rRun_0_2 h_r0_1) ?_
    refine a_callV dX7_aroundCost_38 cw_X7_aroundCost_38 (as := [vR (a0 + 20)]) rfl rfl (kRun_43 h_r0_1) (Nat.le_refl _) (Nat.le_of_ble_eq_true rfl) (nocov rfl) (Nat.le_of_ble_eq_true rfl) (Nat.le_of_ble_eq_true rfl) (CL.mono h (fun r9 H2 h => ?_))
    obtain ⟨M2, h_r0_2, hSr0_20_2, hSr0_43_2, e9, h⟩ := h
    rw [e9]
    show AW l G mX7_aroundCost (d + 1) 4 24 Q 41 [vR a0, vI x1, vI (noarM M x1), vJ y1, vU] [] 1 6 H2
    refine a_aload_n dX7_aroundCost_41 rfl rfl ?_
    refine a_getR dX7_aroundCost_42 fw_RX7_30 rfl rfl (kRun_0 h_r0_2) (rRun_0_3 h_r0_2) ?_
    refine a_iload_n dX7_aroundCost_45 rfl rfl ?_
    refine a_callV dX7_aroundCost_46 cw_X7_aroundCost_46 (as := [vI x1]) rfl rfl (kRun_43 h_r0_2) (Nat.le_refl _) (Nat.le_of_ble_eq_true rfl) (nocov rfl) (Nat.le_of_ble_eq_true rfl) (Nat.le_of_ble_eq_true rfl) (CL.mono h (fun r9 H3 h => ?_))
    obtain ⟨M3, h_r0_3, hSr0_20_3, hSr0_43_3, e9, h⟩ := h
    rw [e9]
    show AW l G mX7_aroundCost (d + 1) 4 24 Q 49 [vR a0, vI x1, vI (noarM M x1), vJ y1, vU] [] 1 6 H3
    refine a_aload_n dX7_aroundCost_49 rfl rfl ?_
    refine a_getR dX7_aroundCost_50 fw_RX7_19 rfl rfl (kRun_0 h_r0_3) (rRun_0_1 h_r0_3) ?_
    refine a_aload_n dX7_aroundCost_53 rfl rfl ?_
    refine a_getR dX7_aroundCost_54 fw_RX7_30 rfl rfl (kRun_0 h_r0_3) (rRun_0_3 h_r0_3) ?_
    refine a_callV dX7_aroundCost_57 cw_X7_aroundCost_57 (as := [vR (a0 + 43)]) rfl rfl (kRun_3 h_r0_3) (Nat.le_refl _) (Nat.le_of_ble_eq_true rfl) (nocov rfl) (Nat.le_of_ble_eq_true rfl) (Nat.le_of_ble_eq_true rfl) (CL.mono h (fun r9 H4 h => ?_))
    obtain ⟨h_r0_4, hSr0_20_4, hSr0_43_4, y4, e9, h⟩ := h
    rw [e9]
    show AW l G mX7_aroundCost (d + 1) 4 24 Q 60 [vR a0, vI x1, vI (noarM M x1), vJ y1, vU] [vJ y4] 1 6 H4
    refine a_lload_n dX7_aroundCost_60 rfl rfl ?_
    obtain ⟨q61_0, h⟩ := h
    refine a_lsub dX7_aroundCost_61 q61_0 ?_
    exact a_lret dX7_aroundCost_62 rfl (Nat.le_of_ble_eq_true rfl) (Nat.le_of_ble_eq_true rfl) h
  · replace h := h.2 c12
    refine a_iload_n dX7_aroundCost_15 rfl rfl ?_
    refine a_i2l dX7_aroundCost_16 ?_
    exact a_lret dX7_aroundCost_17 rfl (Nat.le_of_ble_eq_true rfl) (Nat.le_of_ble_eq_true rfl) h


theorem dX7_latestStart_0 : decode cX7_latestStart 0 = .ok (.aload_n 0, 1) := by decide +kernel
theorem dX7_latestStart_1 : decode cX7_latestStart 1 = .ok (.iload_n 1, 1) := by decide +kernel
theorem dX7_latestStart_2 : decode cX7_latestStart 2 = .ok (.invokevirtual 99, 3) := by decide +kernel
theorem dX7_latestStart_5 : decode cX7_latestStart 5 = .ok (.aload_n 0, 1) := by decide +kernel
theorem dX7_latestStart_6 : decode cX7_latestStart 6 = .ok (.getfield 26, 3) := by decide +kernel
theorem dX7_latestStart_9 : decode cX7_latestStart 9 = .ok (.getfield 170, 3) := by decide +kernel
theorem dX7_latestStart_12 : decode cX7_latestStart 12 = .ok (.iload_n 1, 1) := by decide +kernel
theorem dX7_latestStart_13 : decode cX7_latestStart 13 = .ok (.iaload, 1) := by decide +kernel
theorem dX7_latestStart_14 : decode cX7_latestStart 14 = .ok (.ifCond .eq 5, 3) := by decide +kernel
theorem dX7_latestStart_17 : decode cX7_latestStart 17 = .ok (.iconst (-1), 1) := by decide +kernel
theorem dX7_latestStart_18 : decode cX7_latestStart 18 = .ok (.ireturn, 1) := by decide +kernel
theorem dX7_latestStart_19 : decode cX7_latestStart 19 = .ok (.aload_n 0, 1) := by decide +kernel
theorem dX7_latestStart_20 : decode cX7_latestStart 20 = .ok (.getfield 26, 3) := by decide +kernel
theorem dX7_latestStart_23 : decode cX7_latestStart 23 = .ok (.getfield 77, 3) := by decide +kernel
theorem dX7_latestStart_26 : decode cX7_latestStart 26 = .ok (.getfield 122, 3) := by decide +kernel
theorem dX7_latestStart_29 : decode cX7_latestStart 29 = .ok (.iload_n 1, 1) := by decide +kernel
theorem dX7_latestStart_30 : decode cX7_latestStart 30 = .ok (.iaload, 1) := by decide +kernel
theorem dX7_latestStart_31 : decode cX7_latestStart 31 = .ok (.istore_n 2, 1) := by decide +kernel
theorem dX7_latestStart_32 : decode cX7_latestStart 32 = .ok (.aload_n 0, 1) := by decide +kernel
theorem dX7_latestStart_33 : decode cX7_latestStart 33 = .ok (.getfield 30, 3) := by decide +kernel
theorem dX7_latestStart_36 : decode cX7_latestStart 36 = .ok (.aload_n 0, 1) := by decide +kernel
theorem dX7_latestStart_37 : decode cX7_latestStart 37 = .ok (.getfield 26, 3) := by decide +kernel
theorem dX7_latestStart_40 : decode cX7_latestStart 40 = .ok (.invokevirtual 73, 3) := by decide +kernel
theorem dX7_latestStart_43 : decode cX7_latestStart 43 = .ok (.bipush 30, 2) := by decide +kernel
theorem dX7_latestStart_45 : decode cX7_latestStart 45 = .ok (.istore_n 3, 1) := by decide +kernel
theorem dX7_latestStart_46 : decode cX7_latestStart 46 = .ok (.iload_n 3, 1) := by decide +kernel
theorem dX7_latestStart_47 : decode cX7_latestStart 47 = .ok (.ifCond .lt 85, 3) := by decide +kernel
theorem dX7_latestStart_50 : decode cX7_latestStart 50 = .ok (.aload_n 0, 1) := by decide +kernel
theorem dX7_latestStart_51 : decode cX7_latestStart 51 = .ok (.getfield 26, 3) := by decide +kernel
theorem dX7_latestStart_54 : decode cX7_latestStart 54 = .ok (.getfield 77, 3) := by decide +kernel
theorem dX7_latestStart_57 : decode cX7_latestStart 57 = .ok (.getfield 116, 3) := by decide +kernel
theorem dX7_latestStart_60 : decode cX7_latestStart 60 = .ok (.iload_n 1, 1) := by decide +kernel
theorem dX7_latestStart_61 : decode cX7_latestStart 61 = .ok (.iaload, 1) := by decide +kernel
theorem dX7_latestStart_62 : decode cX7_latestStart 62 = .ok (.iload_n 3, 1) := by decide +kernel
theorem dX7_latestStart_63 : decode cX7_latestStart 63 = .ok (.bipush 30, 2) := by decide +kernel
theorem dX7_latestStart_65 : decode cX7_latestStart 65 = .ok (.imul, 1) := by decide +kernel
theorem dX7_latestStart_66 : decode cX7_latestStart 66 = .ok (.iadd, 1) := by decide +kernel
theorem dX7_latestStart_67 : decode cX7_latestStart 67 = .ok (.istore 4, 2) := by decide +kernel
theorem dX7_latestStart_69 : decode cX7_latestStart 69 = .ok (.iload 4, 2) := by decide +kernel
theorem dX7_latestStart_71 : decode cX7_latestStart 71 = .ok (.iload_n 2, 1) := by decide +kernel
theorem dX7_latestStart_72 : decode cX7_latestStart 72 = .ok (.if_icmp .gt 54, 3) := by decide +kernel
theorem dX7_latestStart_75 : decode cX7_latestStart 75 = .ok (.aload_n 0, 1) := by decide +kernel
theorem dX7_latestStart_76 : decode cX7_latestStart 76 = .ok (.getfield 30, 3) := by decide +kernel
theorem dX7_latestStart_79 : decode cX7_latestStart 79 = .ok (.getfield 77, 3) := by decide +kernel
theorem dX7_latestStart_82 : decode cX7_latestStart 82 = .ok (.getfield 116, 3) := by decide +kernel
theorem dX7_latestStart_85 : decode cX7_latestStart 85 = .ok (.iload_n 1, 1) := by decide +kernel
theorem dX7_latestStart_86 : decode cX7_latestStart 86 = .ok (.iload 4, 2) := by decide +kernel
theorem dX7_latestStart_88 : decode cX7_latestStart 88 = .ok (.iastore, 1) := by decide +kernel
theorem dX7_latestStart_89 : decode cX7_latestStart 89 = .ok (.aload_n 0, 1) := by decide +kernel
theorem dX7_latestStart_90 : decode cX7_latestStart 90 = .ok (.getfield 30, 3) := by decide +kernel
theorem dX7_latestStart_93 : decode cX7_latestStart 93 = .ok (.getfield 173, 3) := by decide +kernel
theorem dX7_latestStart_96 : decode cX7_latestStart 96 = .ok (.aload_n 0, 1) := by decide +kernel
theorem dX7_latestStart_97 : decode cX7_latestStart 97 = .ok (.getfield 30, 3) := by decide +kernel
theorem dX7_latestStart_100 : decode cX7_latestStart 100 = .ok (.getfield 157, 3) := by decide +kernel
theorem dX7_latestStart_103 : decode cX7_latestStart 103 = .ok (.iload_n 1, 1) := by decide +kernel
theorem dX7_latestStart_104 : decode cX7_latestStart 104 = .ok (.iaload, 1) := by decide +kernel
theorem dX7_latestStart_105 : decode cX7_latestStart 105 = .ok (.iconst 0, 1) := by decide +kernel
theorem dX7_latestStart_106 : decode cX7_latestStart 106 = .ok (.bastore, 1) := by decide +kernel
theorem dX7_latestStart_107 : decode cX7_latestStart 107 = .ok (.aload_n 0, 1) := by decide +kernel
theorem dX7_latestStart_108 : decode cX7_latestStart 108 = .ok (.getfield 19, 3) := by decide +kernel
theorem dX7_latestStart_111 : decode cX7_latestStart 111 = .ok (.aload_n 0, 1) := by decide +kernel
theorem dX7_latestStart_112 : decode cX7_latestStart 112 = .ok (.getfield 30, 3) := by decide +kernel
theorem dX7_latestStart_115 : decode cX7_latestStart 115 = .ok (.iload_n 1, 1) := by decide +kernel
theorem dX7_latestStart_116 : decode cX7_latestStart 116 = .ok (.invokevirtual 186, 3) := by decide +kernel
theorem dX7_latestStart_119 : decode cX7_latestStart 119 = .ok (.iload_n 2, 1) := by decide +kernel
theorem dX7_latestStart_120 : decode cX7_latestStart 120 = .ok (.if_icmp .gt 6, 3) := by decide +kernel
theorem dX7_latestStart_123 : decode cX7_latestStart 123 = .ok (.iload 4, 2) := by decide +kernel
theorem dX7_latestStart_125 : decode cX7_latestStart 125 = .ok (.ireturn, 1) := by decide +kernel
theorem dX7_latestStart_126 : decode cX7_latestStart 126 = .ok (.iinc 3 (-1), 3) := by decide +kernel
theorem dX7_latestStart_129 : decode cX7_latestStart 129 = .ok (.goto (-83), 3) := by decide +kernel
theorem dX7_latestStart_132 : decode cX7_latestStart 132 = .ok (.iconst (-1), 1) := by decide +kernel
theorem dX7_latestStart_133 : decode cX7_latestStart 133 = .ok (.ireturn, 1) := by decide +kernel
set_option maxRecDepth 20000 in
theorem s_X7_latestStart_0 {l : Launch} {G : GT} {d : Nat} {Q : AV → AH → Prop} {H : AH} {a0 x1 : Int} (hG : GX l G) {M : Row} (hS : SK H (a0 + 20) M) (h_r0 : Lay LRun H a0) (h : (¬ (fl M x1) → Q (vT 1) H) ∧ (fl M x1 → (0 ≤ x1 ∧ x1 < M 6) ∧ ((ofM M x1 7) = 0 → CL l G mX6_copyFrom d 0 0 [vR (a0 + 43), vR (a0 + 20)] H (fun r9 H1 => ∃ M1 : Row, Lay LRun H1 a0 ∧ SK H1 (a0 + 20) M ∧ SK H1 (a0 + 43) M1 ∧ r9 = vV ∧ AW l G mX7_latestStart (d + 1) 4 24 Q 46 [vR a0, vI x1, vI (ofM M x1 4), vI 30, vU] [] 1 6 H1)) ∧ (¬ (ofM M x1 7) = 0 → Q (vI (-1)) H))) (hd : 6 ≤ d := by omega) : AW l G mX7_latestStart (d + 1) 4 24 Q 0 [vR a0, vI x1, vU, vU, vU] [] 0 0 H := by
  refine a_aload_n dX7_latestStart_0 rfl rfl ?_
  refine a_iload_n dX7_latestStart_1 rfl rfl ?_
  refine a_callV dX7_latestStart_2 cw_X7_latestStart_2 (as := [vI x1]) rfl rfl (kRun_0 h_r0) (Nat.le_refl _) (Nat.le_of_ble_eq_true rfl) (nocov rfl) (Nat.le_of_ble_eq_true rfl) (Nat.le_of_ble_eq_true rfl) (CL.mono (k_checkFlight hG h_r0 hS) (fun r9 H9 h9 => ?_))
  obtain ⟨h8, h9⟩ := h9
  rw [h8]
  rcases h9 with ⟨c2, e9⟩ | ⟨c2, e9⟩
  · rw [e9]; exact h.1 c2
  rw [e9]
  replace h := h.2 c2
  show AW l G mX7_latestStart (d + 1) 4 24 Q 5 [vR a0, vI x1, vU, vU, vU] [] 1 6 H
  refine a_aload_n dX7_latestStart_5 rfl rfl ?_
  refine a_getR dX7_latestStart_6 fw_RX7_26 rfl rfl (kRun_0 h_r0) (rRun_0_2 h_r0) ?_
  refine a_getR dX7_latestStart_9 fw_RX7_170 rfl rfl (kRun_20 h_r0) (rRun_20_4 h_r0) ?_
  refine a_iload_n dX7_latestStart_12 rfl rfl ?_
  obtain ⟨q13_0, h⟩ := h
  refine b_ialdV dX7_latestStart_13 (kRun_35 h_r0) (nRun_35 h_r0) (sk_lt hS q13_0) (sko (by omega) (sk_15 hS q13_0)) ?_
  refine a_if_eq dX7_latestStart_14 (tgt := 19) rfl (fun c14 => ?_) (fun c14 => ?_)
  · replace h := h.1 c14
    refine a_aload_n dX7_latestStart_19 rfl rfl ?_
    refine a_getR dX7_latestStart_20 fw_RX7_26 rfl rfl (kRun_0 h_r0) (rRun_0_2 h_r0) ?_
    refine a_getR dX7_latestStart_23 fw_RX7_77 rfl rfl (kRun_20 h_r0) (rRun_20_1 h_r0) ?_
    refine a_getR dX7_latestStart_26 fw_RX7_122 rfl rfl (kRun_25 h_r0) (rRun_25_7 h_r0) ?_
    refine a_iload_n dX7_latestStart_29 rfl rfl ?_
    refine b_ialdV dX7_latestStart_30 (kRun_32 h_r0) (nRun_32 h_r0) (sk_lt hS q13_0) (sko (by omega) (sk_12 hS q13_0)) ?_
    refine a_istore_n dX7_latestStart_31 rfl (Nat.le_of_ble_eq_true rfl) (ls' := [vR a0, vI x1, vI (ofM M x1 4), vU, vU]) rfl ?_
    refine a_aload_n dX7_latestStart_32 rfl rfl ?_
    refine a_getR dX7_latestStart_33 fw_RX7_30 rfl rfl (kRun_0 h_r0) (rRun_0_3 h_r0) ?_
    refine a_aload_n dX7_latestStart_36 rfl rfl ?_
    refine a_getR dX7_latestStart_37 fw_RX7_26 rfl rfl (kRun_0 h_r0) (rRun_0_2 h_r0) ?_
    refine a_callV dX7_latestStart_40 cw_X7_latestStart_40 (as := [vR (a0 + 20)]) rfl rfl (kRun_43 h_r0) (Nat.le_refl _) (Nat.le_of_ble_eq_true rfl) (nocov rfl) (Nat.le_of_ble_eq_true rfl) (Nat.le_of_ble_eq_true rfl) (CL.mono h (fun r9 H1 h => ?_))
    obtain ⟨M1, h_r0_1, hSr0_20_1, hSr0_43_1, e9, h⟩ := h
    rw [e9]
    show AW l G mX7_latestStart (d + 1) 4 24 Q 43 [vR a0, vI x1, vI (ofM M x1 4), vU, vU] [] 1 6 H1
    refine a_bipush dX7_latestStart_43 (by decide) ?_
    refine a_istore_n dX7_latestStart_45 rfl (Nat.le_of_ble_eq_true rfl) (ls' := [vR a0, vI x1, vI (ofM M x1 4), vI 30, vU]) rfl ?_
    exact h
  · replace h := h.2 c14
    refine a_iconst dX7_latestStart_17 ⟨by decide, by decide⟩ ?_
    exact a_iret dX7_latestStart_18 rfl (Nat.le_of_ble_eq_true rfl) (Nat.le_of_ble_eq_true rfl) h

set_option maxRecDepth 20000 in
theorem s_X7_latestStart_46 {l : Launch} {G : GT} {d : Nat} {Q : AV → AH → Prop} {H : AH} {a0 x1 x2 x3 : Int} (hG : GX l G) {M : Row} (hS : SK H (a0 + 20) M) (h_r0 : Lay LRun H a0) (h : (x3 < 0 → Q (vI (-1)) H) ∧ (0 ≤ x3 → (0 ≤ x1 ∧ x1 < M 6) ∧ (-2147483648 ≤ x3 * 30 ∧ x3 * 30 ≤ 2147483647) ∧ (-2147483648 ≤ (ofM M x1 2) + (x3 * 30) ∧ (ofM M x1 2) + (x3 * 30) ≤ 2147483647) ∧ (x2 < ((ofM M x1 2) + (x3 * 30)) → (-2147483648 ≤ x3 + (-1) ∧ x3 + (-1) ≤ 2147483647) ∧ AW l G mX7_latestStart (d + 1) 4 24 Q 46 [vR a0, vI x1, vI x2, vI (x3 + (-1)), vU] [] 1 6 H) ∧ (((ofM M x1 2) + (x3 * 30)) ≤ x2 → (0 ≤ x1 ∧ x1 < 24) ∧ ∀ H1 : AH, H1 = hs H (a0 + 53) x1 ((ofM M x1 2) + (x3 * 30)) → (0 ≤ (hg H1 (a0 + 57) x1) ∧ (hg H1 (a0 + 57) x1) < 3) ∧ ∀ H2 : AH, H2 = hs H1 (a0 + 64) (hg H1 (a0 + 57) x1) 0 → CL l G mX2_timeIn d 0 0 [vR (a0 + 3), vR (a0 + 43), vI x1] H2 (fun r9 H3 => ∃ M3 : Row, Lay LRun H3 a0 ∧ SK H3 (a0 + 20) M ∧ SK H3 (a0 + 43) M3 ∧ ∃ y3 : Int, r9 = vI y3 ∧ (x2 < y3 → (-2147483648 ≤ x3 + (-1) ∧ x3 + (-1) ≤ 2147483647) ∧ AW l G mX7_latestStart (d + 1) 4 24 Q 46 [vR a0, vI x1, vI x2, vI (x3 + (-1)), vU] [] 1 6 H3) ∧ (y3 ≤ x2 → Q (vI ((ofM M x1 2) + (x3 * 30))) H3))))) (hd : 6 ≤ d := by omega) : AW l G mX7_latestStart (d + 1) 4 24 Q 46 [vR a0, vI x1, vI x2, vI x3, vU] [] 1 6 H := by
  refine a_iload_n dX7_latestStart_46 rfl rfl ?_
  refine a_if_lt dX7_latestStart_47 (tgt := 132) rfl (fun c47 => ?_) (fun c47 => ?_)
  · replace h := h.1 c47
    refine a_iconst dX7_latestStart_132 ⟨by decide, by decide⟩ ?_
    exact a_iret dX7_latestStart_133 rfl (Nat.le_of_ble_eq_true rfl) (Nat.le_of_ble_eq_true rfl) h
  · replace h := h.2 c47
    refine a_aload_n dX7_latestStart_50 rfl rfl ?_
    refine a_getR dX7_latestStart_51 fw_RX7_26 rfl rfl (kRun_0 h_r0) (rRun_0_2 h_r0) ?_
    refine a_getR dX7_latestStart_54 fw_RX7_77 rfl rfl (kRun_20 h_r0) (rRun_20_1 h_r0) ?_
    refine a_getR dX7_latestStart_57 fw_RX7_116 rfl rfl (kRun_25 h_r0) (rRun_25_5 h_r0) ?_
    refine a_iload_n dX7_latestStart_60 rfl rfl ?_
    obtain ⟨q61_0, h⟩ := h
    refine b_ialdV dX7_latestStart_61 (kRun_30 h_r0) (nRun_30 h_r0) (sk_lt hS q61_0) (sko (by omega) (sk_10 hS q61_0)) ?_
    refine a_iload_n dX7_latestStart_62 rfl rfl ?_
    refine a_bipush dX7_latestStart_63 (by decide) ?_
    obtain ⟨q65_0, h⟩ := h
    refine a_imul dX7_latestStart_65 q65_0 ?_
    obtain ⟨q66_0, h⟩ := h
    refine a_iadd dX7_latestStart_66 q66_0 ?_
    refine a_istore dX7_latestStart_67 (Nat.le_of_ble_eq_true rfl) (ls' := [vR a0, vI x1, vI x2, vI x3, vI ((ofM M x1 2) + (x3 * 30))]) rfl ?_
    refine a_iload dX7_latestStart_69 rfl ?_
    refine a_iload_n dX7_latestStart_71 rfl rfl ?_
    refine a_icmp_gt dX7_latestStart_72 (tgt := 126) rfl (fun c72 => ?_) (fun c72 => ?_)
    · replace h := h.1 c72
      obtain ⟨q126_0, h⟩ := h
      refine a_iinc dX7_latestStart_126 rfl (Nat.le_of_ble_eq_true rfl) (by decide) q126_0 (ls' := [vR a0, vI x1, vI x2, vI (x3 + (-1)), vI ((ofM M x1 2) + (x3 * 30))]) rfl ?_
      refine a_goto dX7_latestStart_129 (tgt := 46) rfl ?_
      exact a_weak (wk_e (wk_e (wk_e (wk_e (wk_u wk_n))))) h
    · replace h := h.2 c72
      refine a_aload_n dX7_latestStart_75 rfl rfl ?_
      refine a_getR dX7_latestStart_76 fw_RX7_30 rfl rfl (kRun_0 h_r0) (rRun_0_3 h_r0) ?_
      refine a_getR dX7_latestStart_79 fw_RX7_77 rfl rfl (kRun_43 h_r0) (rRun_43_1 h_r0) ?_
      refine a_getR dX7_latestStart_82 fw_RX7_116 rfl rfl (kRun_48 h_r0) (rRun_48_5 h_r0) ?_
      refine a_iload_n dX7_latestStart_85 rfl rfl ?_
      refine a_iload dX7_latestStart_86 rfl ?_
      obtain ⟨q88_0, h⟩ := h
      refine b_iast dX7_latestStart_88 (kRun_53 h_r0) (nRun_53 h_r0) q88_0 ?_
      have h_r0_1 := Lay.wr h_r0 ok_Run (nrf_arr (kRun_53 h_r0) (by decide) (by decide)) (i := x1) (x := ((ofM M x1 2) + (x3 * 30)))
      generalize e_H1 : hs H (a0 + 53) x1 ((ofM M x1 2) + (x3 * 30)) = H1 at h_r0_1 ⊢
      replace h := h H1 e_H1.symm
      have hSr0_20_1 : SK H1 (a0 + 20) M := by rw [← e_H1]; exact SK.wr hS (nrf_arr (kRun_53 h_r0) (by decide) (by decide)) (by omega)
      refine a_aload_n dX7_latestStart_89 rfl rfl ?_
      refine a_getR dX7_latestStart_90 fw_RX7_30 rfl rfl (kRun_0 h_r0_1) (rRun_0_3 h_r0_1) ?_
      refine a_getR dX7_latestStart_93 fw_RX7_173 rfl rfl (kRun_43 h_r0_1) (rRun_43_11 h_r0_1) ?_
      refine a_aload_n dX7_latestStart_96 rfl rfl ?_
      refine a_getR dX7_latestStart_97 fw_RX7_30 rfl rfl (kRun_0 h_r0_1) (rRun_0_3 h_r0_1) ?_
      refine a_getR dX7_latestStart_100 fw_RX7_157 rfl rfl (kRun_43 h_r0_1) (rRun_43_3 h_r0_1) ?_
      refine a_iload_n dX7_latestStart_103 rfl rfl ?_
      refine b_iald dX7_latestStart_104 (kRun_57 h_r0_1) (nRun_57 h_r0_1) q88_0 ?_
      refine a_iconst dX7_latestStart_105 ⟨by decide, by decide⟩ ?_
      obtain ⟨q106_0, h⟩ := h
      refine b_zast dX7_latestStart_106 (kRun_64 h_r0_1) (nRun_64 h_r0_1) q106_0 (by decide) ?_
      have h_r0_2 := Lay.wr h_r0_1 ok_Run (nrf_arr (kRun_64 h_r0_1) (by decide) (by decide)) (i := (hg H1 (a0 + 57) x1)) (x := 0)
      generalize e_H2 : hs H1 (a0 + 64) (hg H1 (a0 + 57) x1) 0 = H2 at h_r0_2 ⊢
      replace h := h H2 e_H2.symm
      have hSr0_20_2 : SK H2 (a0 + 20) M := by rw [← e_H2]; exact SK.wr hSr0_20_1 (nrf_arr (kRun_64 h_r0_1) (by decide) (by decide)) (by omega)
      refine a_aload_n dX7_latestStart_107 rfl rfl ?_
      refine a_getR dX7_latestStart_108 fw_RX7_19 rfl rfl (kRun_0 h_r0_2) (rRun_0_1 h_r0_2) ?_
      refine a_aload_n dX7_latestStart_111 rfl rfl ?_
      refine a_getR dX7_latestStart_112 fw_RX7_30 rfl rfl (kRun_0 h_r0_2) (rRun_0_3 h_r0_2) ?_
      refine a_iload_n dX7_latestStart_115 rfl rfl ?_
      refine a_callV dX7_latestStart_116 cw_X7_latestStart_116 (as := [vR (a0 + 43), vI x1]) rfl rfl (kRun_3 h_r0_2) (Nat.le_refl _) (Nat.le_of_ble_eq_true rfl) (nocov rfl) (Nat.le_of_ble_eq_true rfl) (Nat.le_of_ble_eq_true rfl) (CL.mono h (fun r9 H3 h => ?_))
      obtain ⟨M3, h_r0_3, hSr0_20_3, hSr0_43_3, y3, e9, h⟩ := h
      rw [e9]
      show AW l G mX7_latestStart (d + 1) 4 24 Q 119 [vR a0, vI x1, vI x2, vI x3, vI ((ofM M x1 2) + (x3 * 30))] [vI y3] 1 6 H3
      refine a_iload_n dX7_latestStart_119 rfl rfl ?_
      refine a_icmp_gt dX7_latestStart_120 (tgt := 126) rfl (fun c120 => ?_) (fun c120 => ?_)
      · replace h := h.1 c120
        obtain ⟨q126_0, h⟩ := h
        refine a_iinc dX7_latestStart_126 rfl (Nat.le_of_ble_eq_true rfl) (by decide) q126_0 (ls' := [vR a0, vI x1, vI x2, vI (x3 + (-1)), vI ((ofM M x1 2) + (x3 * 30))]) rfl ?_
        refine a_goto dX7_latestStart_129 (tgt := 46) rfl ?_
        exact a_weak (wk_e (wk_e (wk_e (wk_e (wk_u wk_n))))) h
      · replace h := h.2 c120
        refine a_iload dX7_latestStart_123 rfl ?_
        exact a_iret dX7_latestStart_125 rfl (Nat.le_of_ble_eq_true rfl) (Nat.le_of_ble_eq_true rfl) h


