theorem dX7_isArrival_0 : decode cX7_isArrival 0 = .ok (.aload_n 0, 1) := by decide +kernel
theorem dX7_isArrival_1 : decode cX7_isArrival 1 = .ok (.iload_n 1, 1) := by decide +kernel
theorem dX7_isArrival_2 : decode cX7_isArrival 2 = .ok (.invokevirtual 99, 3) := by decide +kernel
theorem dX7_isArrival_5 : decode cX7_isArrival 5 = .ok (.aload_n 0, 1) := by decide +kernel
theorem dX7_isArrival_6 : decode cX7_isArrival 6 = .ok (.getfield 26, 3) := by decide +kernel
theorem dX7_isArrival_9 : decode cX7_isArrival 9 = .ok (.getfield 77, 3) := by decide +kernel
theorem dX7_isArrival_12 : decode cX7_isArrival 12 = .ok (.getfield 109, 3) := by decide +kernel
theorem dX7_isArrival_15 : decode cX7_isArrival 15 = .ok (.iload_n 1, 1) := by decide +kernel
theorem dX7_isArrival_16 : decode cX7_isArrival 16 = .ok (.baload, 1) := by decide +kernel
theorem dX7_isArrival_17 : decode cX7_isArrival 17 = .ok (.ireturn, 1) := by decide +kernel
set_option maxRecDepth 20000 in
theorem s_X7_isArrival_0 {l : Launch} {G : GT} {d : Nat} {Q : AV → AH → Prop} {H : AH} {a0 x1 : Int} (hG : GX l G) {M : Row} (hS : SK H (a0 + 20) M) (h_r0 : Lay LRun H a0) (h : (¬ (fl M x1) → Q (vT 1) H) ∧ (fl M x1 → (0 ≤ x1 ∧ x1 < M 6) ∧ ((ofM M x1 0) = 0 ∨ (ofM M x1 0) = 1) ∧ Q (vI (ofM M x1 0)) H)) (hd : 6 ≤ d := by omega) : AW l G mX7_isArrival (d + 1) 4 24 Q 0 [vR a0, vI x1] [] 0 0 H := by
  refine a_aload_n dX7_isArrival_0 rfl rfl ?_
  refine a_iload_n dX7_isArrival_1 rfl rfl ?_
  refine a_callV dX7_isArrival_2 cw_X7_isArrival_2 (as := [vI x1]) rfl rfl (kRun_0 h_r0) (Nat.le_refl _) (Nat.le_of_ble_eq_true rfl) (nocov rfl) (Nat.le_of_ble_eq_true rfl) (Nat.le_of_ble_eq_true rfl) (CL.mono (k_checkFlight hG h_r0 hS) (fun r9 H9 h9 => ?_))
  obtain ⟨h8, h9⟩ := h9
  rw [h8]
  rcases h9 with ⟨c2, e9⟩ | ⟨c2, e9⟩
  · rw [e9]; exact h.1 c2
  rw [e9]
  replace h := h.2 c2
  show AW l G mX7_isArrival (d + 1) 4 24 Q 5 [vR a0, vI x1] [] 1 6 H
  refine a_aload_n dX7_isArrival_5 rfl rfl ?_
  refine a_getR dX7_isArrival_6 fw_RX7_26 rfl rfl (kRun_0 h_r0) (rRun_0_2 h_r0) ?_
  refine a_getR dX7_isArrival_9 fw_RX7_77 rfl rfl (kRun_20 h_r0) (rRun_20_1 h_r0) ?_
  refine a_getR dX7_isArrival_12 fw_RX7_109 rfl rfl (kRun_25 h_r0) (rRun_25_3 h_r0) ?_
  refine a_iload_n dX7_isArrival_15 rfl rfl ?_
  obtain ⟨q16_0, h⟩ := h
  refine b_zaldV dX7_isArrival_16 (kRun_28 h_r0) (nRun_28 h_r0) (sk_lt hS q16_0) (sko (by omega) (sk_8 hS q16_0)) ?_
  obtain ⟨q17_0, h⟩ := h
  exact a_zret dX7_isArrival_17 rfl q17_0 (Nat.le_of_ble_eq_true rfl) (Nat.le_of_ble_eq_true rfl) h


theorem dX7_classOf_0 : decode cX7_classOf 0 = .ok (.aload_n 0, 1) := by decide +kernel
theorem dX7_classOf_1 : decode cX7_classOf 1 = .ok (.iload_n 1, 1) := by decide +kernel
theorem dX7_classOf_2 : decode cX7_classOf 2 = .ok (.invokevirtual 99, 3) := by decide +kernel
theorem dX7_classOf_5 : decode cX7_classOf 5 = .ok (.aload_n 0, 1) := by decide +kernel
theorem dX7_classOf_6 : decode cX7_classOf 6 = .ok (.getfield 26, 3) := by decide +kernel
theorem dX7_classOf_9 : decode cX7_classOf 9 = .ok (.getfield 77, 3) := by decide +kernel
theorem dX7_classOf_12 : decode cX7_classOf 12 = .ok (.getfield 113, 3) := by decide +kernel
theorem dX7_classOf_15 : decode cX7_classOf 15 = .ok (.iload_n 1, 1) := by decide +kernel
theorem dX7_classOf_16 : decode cX7_classOf 16 = .ok (.iaload, 1) := by decide +kernel
theorem dX7_classOf_17 : decode cX7_classOf 17 = .ok (.ireturn, 1) := by decide +kernel
set_option maxRecDepth 20000 in
theorem s_X7_classOf_0 {l : Launch} {G : GT} {d : Nat} {Q : AV → AH → Prop} {H : AH} {a0 x1 : Int} (hG : GX l G) {M : Row} (hS : SK H (a0 + 20) M) (h_r0 : Lay LRun H a0) (h : (¬ (fl M x1) → Q (vT 1) H) ∧ (fl M x1 → (0 ≤ x1 ∧ x1 < M 6) ∧ Q (vI (ofM M x1 1)) H)) (hd : 6 ≤ d := by omega) : AW l G mX7_classOf (d + 1) 4 24 Q 0 [vR a0, vI x1] [] 0 0 H := by
  refine a_aload_n dX7_classOf_0 rfl rfl ?_
  refine a_iload_n dX7_classOf_1 rfl rfl ?_
  refine a_callV dX7_classOf_2 cw_X7_classOf_2 (as := [vI x1]) rfl rfl (kRun_0 h_r0) (Nat.le_refl _) (Nat.le_of_ble_eq_true rfl) (nocov rfl) (Nat.le_of_ble_eq_true rfl) (Nat.le_of_ble_eq_true rfl) (CL.mono (k_checkFlight hG h_r0 hS) (fun r9 H9 h9 => ?_))
  obtain ⟨h8, h9⟩ := h9
  rw [h8]
  rcases h9 with ⟨c2, e9⟩ | ⟨c2, e9⟩
  · rw [e9]; exact h.1 c2
  rw [e9]
  replace h := h.2 c2
  show AW l G mX7_classOf (d + 1) 4 24 Q 5 [vR a0, vI x1] [] 1 6 H
  refine a_aload_n dX7_classOf_5 rfl rfl ?_
  refine a_getR dX7_classOf_6 fw_RX7_26 rfl rfl (kRun_0 h_r0) (rRun_0_2 h_r0) ?_
  refine a_getR dX7_classOf_9 fw_RX7_77 rfl rfl (kRun_20 h_r0) (rRun_20_1 h_r0) ?_
  refine a_getR dX7_classOf_12 fw_RX7_113 rfl rfl (kRun_25 h_r0) (rRun_25_4 h_r0) ?_
  refine a_iload_n dX7_classOf_15 rfl rfl ?_
  obtain ⟨q16_0, h⟩ := h
  refine b_ialdV dX7_classOf_16 (kRun_29 h_r0) (nRun_29 h_r0) (sk_lt hS q16_0) (sko (by omega) (sk_9 hS q16_0)) ?_
  exact a_iret dX7_classOf_17 rfl (Nat.le_of_ble_eq_true rfl) (Nat.le_of_ble_eq_true rfl) h


theorem dX7_earliest_0 : decode cX7_earliest 0 = .ok (.aload_n 0, 1) := by decide +kernel
theorem dX7_earliest_1 : decode cX7_earliest 1 = .ok (.iload_n 1, 1) := by decide +kernel
theorem dX7_earliest_2 : decode cX7_earliest 2 = .ok (.invokevirtual 99, 3) := by decide +kernel
theorem dX7_earliest_5 : decode cX7_earliest 5 = .ok (.aload_n 0, 1) := by decide +kernel
theorem dX7_earliest_6 : decode cX7_earliest 6 = .ok (.getfield 26, 3) := by decide +kernel
theorem dX7_earliest_9 : decode cX7_earliest 9 = .ok (.getfield 77, 3) := by decide +kernel
theorem dX7_earliest_12 : decode cX7_earliest 12 = .ok (.getfield 116, 3) := by decide +kernel
theorem dX7_earliest_15 : decode cX7_earliest 15 = .ok (.iload_n 1, 1) := by decide +kernel
theorem dX7_earliest_16 : decode cX7_earliest 16 = .ok (.iaload, 1) := by decide +kernel
theorem dX7_earliest_17 : decode cX7_earliest 17 = .ok (.ireturn, 1) := by decide +kernel
set_option maxRecDepth 20000 in
theorem s_X7_earliest_0 {l : Launch} {G : GT} {d : Nat} {Q : AV → AH → Prop} {H : AH} {a0 x1 : Int} (hG : GX l G) {M : Row} (hS : SK H (a0 + 20) M) (h_r0 : Lay LRun H a0) (h : (¬ (fl M x1) → Q (vT 1) H) ∧ (fl M x1 → (0 ≤ x1 ∧ x1 < M 6) ∧ Q (vI (ofM M x1 2)) H)) (hd : 6 ≤ d := by omega) : AW l G mX7_earliest (d + 1) 4 24 Q 0 [vR a0, vI x1] [] 0 0 H := by
  refine a_aload_n dX7_earliest_0 rfl rfl ?_
  refine a_iload_n dX7_earliest_1 rfl rfl ?_
  refine a_callV dX7_earliest_2 cw_X7_earliest_2 (as := [vI x1]) rfl rfl (kRun_0 h_r0) (Nat.le_refl _) (Nat.le_of_ble_eq_true rfl) (nocov rfl) (Nat.le_of_ble_eq_true rfl) (Nat.le_of_ble_eq_true rfl) (CL.mono (k_checkFlight hG h_r0 hS) (fun r9 H9 h9 => ?_))
  obtain ⟨h8, h9⟩ := h9
  rw [h8]
  rcases h9 with ⟨c2, e9⟩ | ⟨c2, e9⟩
  · rw [e9]; exact h.1 c2
  rw [e9]
  replace h := h.2 c2
  show AW l G mX7_earliest (d + 1) 4 24 Q 5 [vR a0, vI x1] [] 1 6 H
  refine a_aload_n dX7_earliest_5 rfl rfl ?_
  refine a_getR dX7_earliest_6 fw_RX7_26 rfl rfl (kRun_0 h_r0) (rRun_0_2 h_r0) ?_
  refine a_getR dX7_earliest_9 fw_RX7_77 rfl rfl (kRun_20 h_r0) (rRun_20_1 h_r0) ?_
  refine a_getR dX7_earliest_12 fw_RX7_116 rfl rfl (kRun_25 h_r0) (rRun_25_5 h_r0) ?_
  refine a_iload_n dX7_earliest_15 rfl rfl ?_
  obtain ⟨q16_0, h⟩ := h
  refine b_ialdV dX7_earliest_16 (kRun_30 h_r0) (nRun_30 h_r0) (sk_lt hS q16_0) (sko (by omega) (sk_10 hS q16_0)) ?_
  exact a_iret dX7_earliest_17 rfl (Nat.le_of_ble_eq_true rfl) (Nat.le_of_ble_eq_true rfl) h


theorem dX7_target_0 : decode cX7_target 0 = .ok (.aload_n 0, 1) := by decide +kernel
theorem dX7_target_1 : decode cX7_target 1 = .ok (.iload_n 1, 1) := by decide +kernel
theorem dX7_target_2 : decode cX7_target 2 = .ok (.invokevirtual 99, 3) := by decide +kernel
theorem dX7_target_5 : decode cX7_target 5 = .ok (.aload_n 0, 1) := by decide +kernel
theorem dX7_target_6 : decode cX7_target 6 = .ok (.getfield 26, 3) := by decide +kernel
theorem dX7_target_9 : decode cX7_target 9 = .ok (.getfield 77, 3) := by decide +kernel
theorem dX7_target_12 : decode cX7_target 12 = .ok (.getfield 119, 3) := by decide +kernel
theorem dX7_target_15 : decode cX7_target 15 = .ok (.iload_n 1, 1) := by decide +kernel
theorem dX7_target_16 : decode cX7_target 16 = .ok (.iaload, 1) := by decide +kernel
theorem dX7_target_17 : decode cX7_target 17 = .ok (.ireturn, 1) := by decide +kernel
set_option maxRecDepth 20000 in
theorem s_X7_target_0 {l : Launch} {G : GT} {d : Nat} {Q : AV → AH → Prop} {H : AH} {a0 x1 : Int} (hG : GX l G) {M : Row} (hS : SK H (a0 + 20) M) (h_r0 : Lay LRun H a0) (h : (¬ (fl M x1) → Q (vT 1) H) ∧ (fl M x1 → (0 ≤ x1 ∧ x1 < M 6) ∧ Q (vI (ofM M x1 3)) H)) (hd : 6 ≤ d := by omega) : AW l G mX7_target (d + 1) 4 24 Q 0 [vR a0, vI x1] [] 0 0 H := by
  refine a_aload_n dX7_target_0 rfl rfl ?_
  refine a_iload_n dX7_target_1 rfl rfl ?_
  refine a_callV dX7_target_2 cw_X7_target_2 (as := [vI x1]) rfl rfl (kRun_0 h_r0) (Nat.le_refl _) (Nat.le_of_ble_eq_true rfl) (nocov rfl) (Nat.le_of_ble_eq_true rfl) (Nat.le_of_ble_eq_true rfl) (CL.mono (k_checkFlight hG h_r0 hS) (fun r9 H9 h9 => ?_))
  obtain ⟨h8, h9⟩ := h9
  rw [h8]
  rcases h9 with ⟨c2, e9⟩ | ⟨c2, e9⟩
  · rw [e9]; exact h.1 c2
  rw [e9]
  replace h := h.2 c2
  show AW l G mX7_target (d + 1) 4 24 Q 5 [vR a0, vI x1] [] 1 6 H
  refine a_aload_n dX7_target_5 rfl rfl ?_
  refine a_getR dX7_target_6 fw_RX7_26 rfl rfl (kRun_0 h_r0) (rRun_0_2 h_r0) ?_
  refine a_getR dX7_target_9 fw_RX7_77 rfl rfl (kRun_20 h_r0) (rRun_20_1 h_r0) ?_
  refine a_getR dX7_target_12 fw_RX7_119 rfl rfl (kRun_25 h_r0) (rRun_25_6 h_r0) ?_
  refine a_iload_n dX7_target_15 rfl rfl ?_
  obtain ⟨q16_0, h⟩ := h
  refine b_ialdV dX7_target_16 (kRun_31 h_r0) (nRun_31 h_r0) (sk_lt hS q16_0) (sko (by omega) (sk_11 hS q16_0)) ?_
  exact a_iret dX7_target_17 rfl (Nat.le_of_ble_eq_true rfl) (Nat.le_of_ble_eq_true rfl) h


theorem dX7_latest_0 : decode cX7_latest 0 = .ok (.aload_n 0, 1) := by decide +kernel
theorem dX7_latest_1 : decode cX7_latest 1 = .ok (.iload_n 1, 1) := by decide +kernel
theorem dX7_latest_2 : decode cX7_latest 2 = .ok (.invokevirtual 99, 3) := by decide +kernel
theorem dX7_latest_5 : decode cX7_latest 5 = .ok (.aload_n 0, 1) := by decide +kernel
theorem dX7_latest_6 : decode cX7_latest 6 = .ok (.getfield 26, 3) := by decide +kernel
theorem dX7_latest_9 : decode cX7_latest 9 = .ok (.getfield 77, 3) := by decide +kernel
theorem dX7_latest_12 : decode cX7_latest 12 = .ok (.getfield 122, 3) := by decide +kernel
theorem dX7_latest_15 : decode cX7_latest 15 = .ok (.iload_n 1, 1) := by decide +kernel
theorem dX7_latest_16 : decode cX7_latest 16 = .ok (.iaload, 1) := by decide +kernel
theorem dX7_latest_17 : decode cX7_latest 17 = .ok (.ireturn, 1) := by decide +kernel
set_option maxRecDepth 20000 in
theorem s_X7_latest_0 {l : Launch} {G : GT} {d : Nat} {Q : AV → AH → Prop} {H : AH} {a0 x1 : Int} (hG : GX l G) {M : Row} (hS : SK H (a0 + 20) M) (h_r0 : Lay LRun H a0) (h : (¬ (fl M x1) → Q (vT 1) H) ∧ (fl M x1 → (0 ≤ x1 ∧ x1 < M 6) ∧ Q (vI (ofM M x1 4)) H)) (hd : 6 ≤ d := by omega) : AW l G mX7_latest (d + 1) 4 24 Q 0 [vR a0, vI x1] [] 0 0 H := by
  refine a_aload_n dX7_latest_0 rfl rfl ?_
  refine a_iload_n dX7_latest_1 rfl rfl ?_
  refine a_callV dX7_latest_2 cw_X7_latest_2 (as := [vI x1]) rfl rfl (kRun_0 h_r0) (Nat.le_refl _) (Nat.le_of_ble_eq_true rfl) (nocov rfl) (Nat.le_of_ble_eq_true rfl) (Nat.le_of_ble_eq_true rfl) (CL.mono (k_checkFlight hG h_r0 hS) (fun r9 H9 h9 => ?_))
  obtain ⟨h8, h9⟩ := h9
  rw [h8]
  rcases h9 with ⟨c2, e9⟩ | ⟨c2, e9⟩
  · rw [e9]; exact h.1 c2
  rw [e9]
  replace h := h.2 c2
  show AW l G mX7_latest (d + 1) 4 24 Q 5 [vR a0, vI x1] [] 1 6 H
  refine a_aload_n dX7_latest_5 rfl rfl ?_
  refine a_getR dX7_latest_6 fw_RX7_26 rfl rfl (kRun_0 h_r0) (rRun_0_2 h_r0) ?_
  refine a_getR dX7_latest_9 fw_RX7_77 rfl rfl (kRun_20 h_r0) (rRun_20_1 h_r0) ?_
  refine a_getR dX7_latest_12 fw_RX7_122 rfl rfl (kRun_25 h_r0) (rRun_25_7 h_r0) ?_
  refine a_iload_n dX7_latest_15 rfl rfl ?_
  obtain ⟨q16_0, h⟩ := h
  refine b_ialdV dX7_latest_16 (kRun_32 h_r0) (nRun_32 h_r0) (sk_lt hS q16_0) (sko (by omega) (sk_12 hS q16_0)) ?_
  exact a_iret dX7_latest_17 rfl (Nat.le_of_ble_eq_true rfl) (Nat.le_of_ble_eq_true rfl) h


theorem dX7_runwayOf_0 : decode cX7_runwayOf 0 = .ok (.aload_n 0, 1) := by decide +kernel
theorem dX7_runwayOf_1 : decode cX7_runwayOf 1 = .ok (.iload_n 1, 1) := by decide +kernel
theorem dX7_runwayOf_2 : decode cX7_runwayOf 2 = .ok (.invokevirtual 99, 3) := by decide +kernel
theorem dX7_runwayOf_5 : decode cX7_runwayOf 5 = .ok (.aload_n 0, 1) := by decide +kernel
theorem dX7_runwayOf_6 : decode cX7_runwayOf 6 = .ok (.getfield 26, 3) := by decide +kernel
theorem dX7_runwayOf_9 : decode cX7_runwayOf 9 = .ok (.getfield 157, 3) := by decide +kernel
theorem dX7_runwayOf_12 : decode cX7_runwayOf 12 = .ok (.iload_n 1, 1) := by decide +kernel
theorem dX7_runwayOf_13 : decode cX7_runwayOf 13 = .ok (.iaload, 1) := by decide +kernel
theorem dX7_runwayOf_14 : decode cX7_runwayOf 14 = .ok (.ireturn, 1) := by decide +kernel
set_option maxRecDepth 20000 in
theorem s_X7_runwayOf_0 {l : Launch} {G : GT} {d : Nat} {Q : AV → AH → Prop} {H : AH} {a0 x1 : Int} (hG : GX l G) {M : Row} (hS : SK H (a0 + 20) M) (h_r0 : Lay LRun H a0) (h : (¬ (fl M x1) → Q (vT 1) H) ∧ (fl M x1 → (0 ≤ x1 ∧ x1 < M 6) ∧ Q (vI (ofM M x1 6)) H)) (hd : 6 ≤ d := by omega) : AW l G mX7_runwayOf (d + 1) 4 24 Q 0 [vR a0, vI x1] [] 0 0 H := by
  refine a_aload_n dX7_runwayOf_0 rfl rfl ?_
  refine a_iload_n dX7_runwayOf_1 rfl rfl ?_
  refine a_callV dX7_runwayOf_2 cw_X7_runwayOf_2 (as := [vI x1]) rfl rfl (kRun_0 h_r0) (Nat.le_refl _) (Nat.le_of_ble_eq_true rfl) (nocov rfl) (Nat.le_of_ble_eq_true rfl) (Nat.le_of_ble_eq_true rfl) (CL.mono (k_checkFlight hG h_r0 hS) (fun r9 H9 h9 => ?_))
  obtain ⟨h8, h9⟩ := h9
  rw [h8]
  rcases h9 with ⟨c2, e9⟩ | ⟨c2, e9⟩
  · rw [e9]; exact h.1 c2
  rw [e9]
  replace h := h.2 c2
  show AW l G mX7_runwayOf (d + 1) 4 24 Q 5 [vR a0, vI x1] [] 1 6 H
  refine a_aload_n dX7_runwayOf_5 rfl rfl ?_
  refine a_getR dX7_runwayOf_6 fw_RX7_26 rfl rfl (kRun_0 h_r0) (rRun_0_2 h_r0) ?_
  refine a_getR dX7_runwayOf_9 fw_RX7_157 rfl rfl (kRun_20 h_r0) (rRun_20_3 h_r0) ?_
  refine a_iload_n dX7_runwayOf_12 rfl rfl ?_
  obtain ⟨q13_0, h⟩ := h
  refine b_ialdV dX7_runwayOf_13 (kRun_34 h_r0) (nRun_34 h_r0) (sk_lt hS q13_0) (sko (by omega) (sk_14 hS q13_0)) ?_
  exact a_iret dX7_runwayOf_14 rfl (Nat.le_of_ble_eq_true rfl) (Nat.le_of_ble_eq_true rfl) h


theorem dX7_stateOf_0 : decode cX7_stateOf 0 = .ok (.aload_n 0, 1) := by decide +kernel
theorem dX7_stateOf_1 : decode cX7_stateOf 1 = .ok (.iload_n 1, 1) := by decide +kernel
theorem dX7_stateOf_2 : decode cX7_stateOf 2 = .ok (.invokevirtual 99, 3) := by decide +kernel
theorem dX7_stateOf_5 : decode cX7_stateOf 5 = .ok (.aload_n 0, 1) := by decide +kernel
theorem dX7_stateOf_6 : decode cX7_stateOf 6 = .ok (.getfield 26, 3) := by decide +kernel
theorem dX7_stateOf_9 : decode cX7_stateOf 9 = .ok (.getfield 170, 3) := by decide +kernel
theorem dX7_stateOf_12 : decode cX7_stateOf 12 = .ok (.iload_n 1, 1) := by decide +kernel
theorem dX7_stateOf_13 : decode cX7_stateOf 13 = .ok (.iaload, 1) := by decide +kernel
theorem dX7_stateOf_14 : decode cX7_stateOf 14 = .ok (.ireturn, 1) := by decide +kernel
set_option maxRecDepth 20000 in
theorem s_X7_stateOf_0 {l : Launch} {G : GT} {d : Nat} {Q : AV → AH → Prop} {H : AH} {a0 x1 : Int} (hG : GX l G) {M : Row} (hS : SK H (a0 + 20) M) (h_r0 : Lay LRun H a0) (h : (¬ (fl M x1) → Q (vT 1) H) ∧ (fl M x1 → (0 ≤ x1 ∧ x1 < M 6) ∧ Q (vI (ofM M x1 7)) H)) (hd : 6 ≤ d := by omega) : AW l G mX7_stateOf (d + 1) 4 24 Q 0 [vR a0, vI x1] [] 0 0 H := by
  refine a_aload_n dX7_stateOf_0 rfl rfl ?_
  refine a_iload_n dX7_stateOf_1 rfl rfl ?_
  refine a_callV dX7_stateOf_2 cw_X7_stateOf_2 (as := [vI x1]) rfl rfl (kRun_0 h_r0) (Nat.le_refl _) (Nat.le_of_ble_eq_true rfl) (nocov rfl) (Nat.le_of_ble_eq_true rfl) (Nat.le_of_ble_eq_true rfl) (CL.mono (k_checkFlight hG h_r0 hS) (fun r9 H9 h9 => ?_))
  obtain ⟨h8, h9⟩ := h9
  rw [h8]
  rcases h9 with ⟨c2, e9⟩ | ⟨c2, e9⟩
  · rw [e9]; exact h.1 c2
  rw [e9]
  replace h := h.2 c2
  show AW l G mX7_stateOf (d + 1) 4 24 Q 5 [vR a0, vI x1] [] 1 6 H
  refine a_aload_n dX7_stateOf_5 rfl rfl ?_
  refine a_getR dX7_stateOf_6 fw_RX7_26 rfl rfl (kRun_0 h_r0) (rRun_0_2 h_r0) ?_
  refine a_getR dX7_stateOf_9 fw_RX7_170 rfl rfl (kRun_20 h_r0) (rRun_20_4 h_r0) ?_
  refine a_iload_n dX7_stateOf_12 rfl rfl ?_
  obtain ⟨q13_0, h⟩ := h
  refine b_ialdV dX7_stateOf_13 (kRun_35 h_r0) (nRun_35 h_r0) (sk_lt hS q13_0) (sko (by omega) (sk_15 hS q13_0)) ?_
  exact a_iret dX7_stateOf_14 rfl (Nat.le_of_ble_eq_true rfl) (Nat.le_of_ble_eq_true rfl) h


theorem dX7_aroundCount_0 : decode cX7_aroundCount 0 = .ok (.aload_n 0, 1) := by decide +kernel
theorem dX7_aroundCount_1 : decode cX7_aroundCount 1 = .ok (.iload_n 1, 1) := by decide +kernel
theorem dX7_aroundCount_2 : decode cX7_aroundCount 2 = .ok (.invokevirtual 99, 3) := by decide +kernel
theorem dX7_aroundCount_5 : decode cX7_aroundCount 5 = .ok (.aload_n 0, 1) := by decide +kernel
theorem dX7_aroundCount_6 : decode cX7_aroundCount 6 = .ok (.getfield 26, 3) := by decide +kernel
theorem dX7_aroundCount_9 : decode cX7_aroundCount 9 = .ok (.getfield 257, 3) := by decide +kernel
theorem dX7_aroundCount_12 : decode cX7_aroundCount 12 = .ok (.iload_n 1, 1) := by decide +kernel
theorem dX7_aroundCount_13 : decode cX7_aroundCount 13 = .ok (.iaload, 1) := by decide +kernel
theorem dX7_aroundCount_14 : decode cX7_aroundCount 14 = .ok (.ireturn, 1) := by decide +kernel
set_option maxRecDepth 20000 in
theorem s_X7_aroundCount_0 {l : Launch} {G : GT} {d : Nat} {Q : AV → AH → Prop} {H : AH} {a0 x1 : Int} (hG : GX l G) {M : Row} (hS : SK H (a0 + 20) M) (h_r0 : Lay LRun H a0) (h : (¬ (fl M x1) → Q (vT 1) H) ∧ (fl M x1 → (0 ≤ x1 ∧ x1 < M 6) ∧ Q (vI (ofM M x1 9)) H)) (hd : 6 ≤ d := by omega) : AW l G mX7_aroundCount (d + 1) 4 24 Q 0 [vR a0, vI x1] [] 0 0 H := by
  refine a_aload_n dX7_aroundCount_0 rfl rfl ?_
  refine a_iload_n dX7_aroundCount_1 rfl rfl ?_
  refine a_callV dX7_aroundCount_2 cw_X7_aroundCount_2 (as := [vI x1]) rfl rfl (kRun_0 h_r0) (Nat.le_refl _) (Nat.le_of_ble_eq_true rfl) (nocov rfl) (Nat.le_of_ble_eq_true rfl) (Nat.le_of_ble_eq_true rfl) (CL.mono (k_checkFlight hG h_r0 hS) (fun r9 H9 h9 => ?_))
  obtain ⟨h8, h9⟩ := h9
  rw [h8]
  rcases h9 with ⟨c2, e9⟩ | ⟨c2, e9⟩
  · rw [e9]; exact h.1 c2
  rw [e9]
  replace h := h.2 c2
  show AW l G mX7_aroundCount (d + 1) 4 24 Q 5 [vR a0, vI x1] [] 1 6 H
  refine a_aload_n dX7_aroundCount_5 rfl rfl ?_
  refine a_getR dX7_aroundCount_6 fw_RX7_26 rfl rfl (kRun_0 h_r0) (rRun_0_2 h_r0) ?_
  refine a_getR dX7_aroundCount_9 fw_RX7_257 rfl rfl (kRun_20 h_r0) (rRun_20_6 h_r0) ?_
  refine a_iload_n dX7_aroundCount_12 rfl rfl ?_
  obtain ⟨q13_0, h⟩ := h
  refine b_ialdV dX7_aroundCount_13 (kRun_37 h_r0) (nRun_37 h_r0) (sk_lt hS q13_0) (sko (by omega) (sk_17 hS q13_0)) ?_
  exact a_iret dX7_aroundCount_14 rfl (Nat.le_of_ble_eq_true rfl) (Nat.le_of_ble_eq_true rfl) h


theorem dX7_nameByte_0 : decode cX7_nameByte 0 = .ok (.aload_n 0, 1) := by decide +kernel
theorem dX7_nameByte_1 : decode cX7_nameByte 1 = .ok (.iload_n 1, 1) := by decide +kernel
theorem dX7_nameByte_2 : decode cX7_nameByte 2 = .ok (.invokevirtual 99, 3) := by decide +kernel
theorem dX7_nameByte_5 : decode cX7_nameByte 5 = .ok (.iload_n 2, 1) := by decide +kernel
theorem dX7_nameByte_6 : decode cX7_nameByte 6 = .ok (.ifCond .lt 19, 3) := by decide +kernel
theorem dX7_nameByte_9 : decode cX7_nameByte 9 = .ok (.iload_n 2, 1) := by decide +kernel
theorem dX7_nameByte_10 : decode cX7_nameByte 10 = .ok (.aload_n 0, 1) := by decide +kernel
theorem dX7_nameByte_11 : decode cX7_nameByte 11 = .ok (.getfield 26, 3) := by decide +kernel
theorem dX7_nameByte_14 : decode cX7_nameByte 14 = .ok (.getfield 77, 3) := by decide +kernel
theorem dX7_nameByte_17 : decode cX7_nameByte 17 = .ok (.getfield 103, 3) := by decide +kernel
theorem dX7_nameByte_20 : decode cX7_nameByte 20 = .ok (.iload_n 1, 1) := by decide +kernel
theorem dX7_nameByte_21 : decode cX7_nameByte 21 = .ok (.iaload, 1) := by decide +kernel
theorem dX7_nameByte_22 : decode cX7_nameByte 22 = .ok (.if_icmp .lt 5, 3) := by decide +kernel
theorem dX7_nameByte_25 : decode cX7_nameByte 25 = .ok (.iconst (-1), 1) := by decide +kernel
theorem dX7_nameByte_26 : decode cX7_nameByte 26 = .ok (.ireturn, 1) := by decide +kernel
theorem dX7_nameByte_27 : decode cX7_nameByte 27 = .ok (.aload_n 0, 1) := by decide +kernel
theorem dX7_nameByte_28 : decode cX7_nameByte 28 = .ok (.getfield 26, 3) := by decide +kernel
theorem dX7_nameByte_31 : decode cX7_nameByte 31 = .ok (.getfield 77, 3) := by decide +kernel
theorem dX7_nameByte_34 : decode cX7_nameByte 34 = .ok (.getfield 106, 3) := by decide +kernel
theorem dX7_nameByte_37 : decode cX7_nameByte 37 = .ok (.iload_n 1, 1) := by decide +kernel
theorem dX7_nameByte_38 : decode cX7_nameByte 38 = .ok (.bipush 6, 2) := by decide +kernel
theorem dX7_nameByte_40 : decode cX7_nameByte 40 = .ok (.imul, 1) := by decide +kernel
theorem dX7_nameByte_41 : decode cX7_nameByte 41 = .ok (.iload_n 2, 1) := by decide +kernel
theorem dX7_nameByte_42 : decode cX7_nameByte 42 = .ok (.iadd, 1) := by decide +kernel
theorem dX7_nameByte_43 : decode cX7_nameByte 43 = .ok (.iaload, 1) := by decide +kernel
theorem dX7_nameByte_44 : decode cX7_nameByte 44 = .ok (.ireturn, 1) := by decide +kernel
set_option maxRecDepth 20000 in
theorem s_X7_nameByte_0 {l : Launch} {G : GT} {d : Nat} {Q : AV → AH → Prop} {H : AH} {a0 x1 x2 : Int} (hG : GX l G) {M : Row} (hS : SK H (a0 + 20) M) (h_r0 : Lay LRun H a0) (h : (¬ (fl M x1) → Q (vT 1) H) ∧ (fl M x1 → (x2 < 0 → Q (vI (-1)) H) ∧ (0 ≤ x2 → (0 ≤ x1 ∧ x1 < 24) ∧ (x2 < (hg H (a0 + 27) x1) → (-2147483648 ≤ x1 * 6 ∧ x1 * 6 ≤ 2147483647) ∧ (-2147483648 ≤ (x1 * 6) + x2 ∧ (x1 * 6) + x2 ≤ 2147483647) ∧ (0 ≤ ((x1 * 6) + x2) ∧ ((x1 * 6) + x2) < 144) ∧ Q (vI (hg H (a0 + 26) ((x1 * 6) + x2))) H) ∧ ((hg H (a0 + 27) x1) ≤ x2 → Q (vI (-1)) H)))) (hd : 6 ≤ d := by omega) : AW l G mX7_nameByte (d + 1) 4 24 Q 0 [vR a0, vI x1, vI x2] [] 0 0 H := by
  refine a_aload_n dX7_nameByte_0 rfl rfl ?_
  refine a_iload_n dX7_nameByte_1 rfl rfl ?_
  refine a_callV dX7_nameByte_2 cw_X7_nameByte_2 (as := [vI x1]) rfl rfl (kRun_0 h_r0) (Nat.le_refl _) (Nat.le_of_ble_eq_true rfl) (nocov rfl) (Nat.le_of_ble_eq_true rfl) (Nat.le_of_ble_eq_true rfl) (CL.mono (k_checkFlight hG h_r0 hS) (fun r9 H9 h9 => ?_))
  obtain ⟨h8, h9⟩ := h9
  rw [h8]
  rcases h9 with ⟨c2, e9⟩ | ⟨c2, e9⟩
  · rw [e9]; exact h.1 c2
  rw [e9]
  replace h := h.2 c2
  show AW l G mX7_nameByte (d + 1) 4 24 Q 5 [vR a0, vI x1, vI x2] [] 1 6 H
  refine a_iload_n dX7_nameByte_5 rfl rfl ?_
  refine a_if_lt dX7_nameByte_6 (tgt := 25) rfl (fun c6 => ?_) (fun c6 => ?_)
  · replace h := h.1 c6
    refine a_iconst dX7_nameByte_25 ⟨by decide, by decide⟩ ?_
    exact a_iret dX7_nameByte_26 rfl (Nat.le_of_ble_eq_true rfl) (Nat.le_of_ble_eq_true rfl) h
  · replace h := h.2 c6
    refine a_iload_n dX7_nameByte_9 rfl rfl ?_
    refine a_aload_n dX7_nameByte_10 rfl rfl ?_
    refine a_getR dX7_nameByte_11 fw_RX7_26 rfl rfl (kRun_0 h_r0) (rRun_0_2 h_r0) ?_
    refine a_getR dX7_nameByte_14 fw_RX7_77 rfl rfl (kRun_20 h_r0) (rRun_20_1 h_r0) ?_
    refine a_getR dX7_nameByte_17 fw_RX7_103 rfl rfl (kRun_25 h_r0) (rRun_25_2 h_r0) ?_
    refine a_iload_n dX7_nameByte_20 rfl rfl ?_
    obtain ⟨q21_0, h⟩ := h
    refine b_iald dX7_nameByte_21 (kRun_27 h_r0) (nRun_27 h_r0) q21_0 ?_
    refine a_icmp_lt dX7_nameByte_22 (tgt := 27) rfl (fun c22 => ?_) (fun c22 => ?_)
    · replace h := h.1 c22
      refine a_aload_n dX7_nameByte_27 rfl rfl ?_
      refine a_getR dX7_nameByte_28 fw_RX7_26 rfl rfl (kRun_0 h_r0) (rRun_0_2 h_r0) ?_
      refine a_getR dX7_nameByte_31 fw_RX7_77 rfl rfl (kRun_20 h_r0) (rRun_20_1 h_r0) ?_
      refine a_getR dX7_nameByte_34 fw_RX7_106 rfl rfl (kRun_25 h_r0) (rRun_25_1 h_r0) ?_
      refine a_iload_n dX7_nameByte_37 rfl rfl ?_
      refine a_bipush dX7_nameByte_38 (by decide) ?_
      obtain ⟨q40_0, h⟩ := h
      refine a_imul dX7_nameByte_40 q40_0 ?_
      refine a_iload_n dX7_nameByte_41 rfl rfl ?_
      obtain ⟨q42_0, h⟩ := h
      refine a_iadd dX7_nameByte_42 q42_0 ?_
      obtain ⟨q43_0, h⟩ := h
      refine b_iald dX7_nameByte_43 (kRun_26 h_r0) (nRun_26 h_r0) q43_0 ?_
      exact a_iret dX7_nameByte_44 rfl (Nat.le_of_ble_eq_true rfl) (Nat.le_of_ble_eq_true rfl) h
    · replace h := h.2 c22
      refine a_iconst dX7_nameByte_25 ⟨by decide, by decide⟩ ?_
      exact a_iret dX7_nameByte_26 rfl (Nat.le_of_ble_eq_true rfl) (Nat.le_of_ble_eq_true rfl) h


theorem dX7_wake_0 : decode cX7_wake 0 = .ok (.iload_n 1, 1) := by decide +kernel
theorem dX7_wake_1 : decode cX7_wake 1 = .ok (.invokestatic 125, 3) := by decide +kernel
theorem dX7_wake_4 : decode cX7_wake 4 = .ok (.iload_n 2, 1) := by decide +kernel
theorem dX7_wake_5 : decode cX7_wake 5 = .ok (.invokestatic 125, 3) := by decide +kernel
theorem dX7_wake_8 : decode cX7_wake 8 = .ok (.aload_n 0, 1) := by decide +kernel
theorem dX7_wake_9 : decode cX7_wake 9 = .ok (.getfield 26, 3) := by decide +kernel
theorem dX7_wake_12 : decode cX7_wake 12 = .ok (.getfield 90, 3) := by decide +kernel
theorem dX7_wake_15 : decode cX7_wake 15 = .ok (.getfield 128, 3) := by decide +kernel
theorem dX7_wake_18 : decode cX7_wake 18 = .ok (.iload_n 1, 1) := by decide +kernel
theorem dX7_wake_19 : decode cX7_wake 19 = .ok (.iconst 4, 1) := by decide +kernel
theorem dX7_wake_20 : decode cX7_wake 20 = .ok (.imul, 1) := by decide +kernel
theorem dX7_wake_21 : decode cX7_wake 21 = .ok (.iload_n 2, 1) := by decide +kernel
theorem dX7_wake_22 : decode cX7_wake 22 = .ok (.iadd, 1) := by decide +kernel
theorem dX7_wake_23 : decode cX7_wake 23 = .ok (.iaload, 1) := by decide +kernel
theorem dX7_wake_24 : decode cX7_wake 24 = .ok (.ireturn, 1) := by decide +kernel
set_option maxRecDepth 20000 in
theorem s_X7_wake_0 {l : Launch} {G : GT} {d : Nat} {Q : AV → AH → Prop} {H : AH} {a0 x1 x2 : Int} (hG : GX l G) {M : Row} (hS : SK H (a0 + 20) M) (h_r0 : Lay LRun H a0) (h : (¬ (0 ≤ x1 ∧ x1 ≤ 3) → Q (vT 0) H) ∧ (0 ≤ x1 ∧ x1 ≤ 3 → (¬ (0 ≤ x2 ∧ x2 ≤ 3) → Q (vT 0) H) ∧ (0 ≤ x2 ∧ x2 ≤ 3 → (-2147483648 ≤ x1 * 4 ∧ x1 * 4 ≤ 2147483647) ∧ (-2147483648 ≤ (x1 * 4) + x2 ∧ (x1 * 4) + x2 ≤ 2147483647) ∧ (0 ≤ ((x1 * 4) + x2) ∧ ((x1 * 4) + x2) < 16) ∧ Q (vI (M (8 + ((x1 * 4) + x2)))) H))) (hd : 6 ≤ d := by omega) : AW l G mX7_wake (d + 1) 4 24 Q 0 [vR a0, vI x1, vI x2] [] 0 0 H := by
  refine a_iload_n dX7_wake_0 rfl rfl ?_
  refine a_callS dX7_wake_1 cw_X7_wake_1 (as := [vI x1]) rfl rfl (Nat.le_refl _) (Nat.le_of_ble_eq_true rfl) (nocov rfl) (Nat.le_of_ble_eq_true rfl) (Nat.le_of_ble_eq_true rfl) (CL.mono (k_checkClass hG) (fun r9 H9 h9 => ?_))
  obtain ⟨h8, h9⟩ := h9
  rw [h8]
  rcases h9 with ⟨c1, e9⟩ | ⟨c1, e9⟩
  · rw [e9]; exact h.1 c1
  rw [e9]
  replace h := h.2 c1
  show AW l G mX7_wake (d + 1) 4 24 Q 4 [vR a0, vI x1, vI x2] [] 1 6 H
  refine a_iload_n dX7_wake_4 rfl rfl ?_
  refine a_callS dX7_wake_5 cw_X7_wake_5 (as := [vI x2]) rfl rfl (Nat.le_refl _) (Nat.le_of_ble_eq_true rfl) (nocov rfl) (Nat.le_of_ble_eq_true rfl) (Nat.le_of_ble_eq_true rfl) (CL.mono (k_checkClass hG) (fun r9 H9 h9 => ?_))
  obtain ⟨h8, h9⟩ := h9
  rw [h8]
  rcases h9 with ⟨c5, e9⟩ | ⟨c5, e9⟩
  · rw [e9]; exact h.1 c5
  rw [e9]
  replace h := h.2 c5
  show AW l G mX7_wake (d + 1) 4 24 Q 8 [vR a0, vI x1, vI x2] [] 2 12 H
  refine a_aload_n dX7_wake_8 rfl rfl ?_
  refine a_getR dX7_wake_9 fw_RX7_26 rfl rfl (kRun_0 h_r0) (rRun_0_2 h_r0) ?_
  refine a_getR dX7_wake_12 fw_RX7_90 rfl rfl (kRun_20 h_r0) (rRun_20_0 h_r0) ?_
  refine a_getR dX7_wake_15 fw_RX7_128 rfl rfl (kRun_21 h_r0) (rRun_21_5 h_r0) ?_
  refine a_iload_n dX7_wake_18 rfl rfl ?_
  refine a_iconst dX7_wake_19 ⟨by decide, by decide⟩ ?_
  obtain ⟨q20_0, h⟩ := h
  refine a_imul dX7_wake_20 q20_0 ?_
  refine a_iload_n dX7_wake_21 rfl rfl ?_
  obtain ⟨q22_0, h⟩ := h
  refine a_iadd dX7_wake_22 q22_0 ?_
  obtain ⟨q23_0, h⟩ := h
  refine b_ialdV dX7_wake_23 (kRun_22 h_r0) (nRun_22 h_r0) q23_0 (sko (by omega) (sk_2 hS q23_0)) ?_
  exact a_iret dX7_wake_24 rfl (Nat.le_of_ble_eq_true rfl) (Nat.le_of_ble_eq_true rfl) h


theorem dX7_separation_0 : decode cX7_separation 0 = .ok (.aload_n 0, 1) := by decide +kernel
theorem dX7_separation_1 : decode cX7_separation 1 = .ok (.iload_n 1, 1) := by decide +kernel
theorem dX7_separation_2 : decode cX7_separation 2 = .ok (.invokevirtual 99, 3) := by decide +kernel
theorem dX7_separation_5 : decode cX7_separation 5 = .ok (.aload_n 0, 1) := by decide +kernel
theorem dX7_separation_6 : decode cX7_separation 6 = .ok (.iload_n 2, 1) := by decide +kernel
theorem dX7_separation_7 : decode cX7_separation 7 = .ok (.invokevirtual 99, 3) := by decide +kernel
theorem dX7_separation_10 : decode cX7_separation 10 = .ok (.aload_n 0, 1) := by decide +kernel
theorem dX7_separation_11 : decode cX7_separation 11 = .ok (.getfield 26, 3) := by decide +kernel
theorem dX7_separation_14 : decode cX7_separation 14 = .ok (.iload_n 1, 1) := by decide +kernel
theorem dX7_separation_15 : decode cX7_separation 15 = .ok (.iload_n 2, 1) := by decide +kernel
theorem dX7_separation_16 : decode cX7_separation 16 = .ok (.invokevirtual 131, 3) := by decide +kernel
theorem dX7_separation_19 : decode cX7_separation 19 = .ok (.ireturn, 1) := by decide +kernel
set_option maxRecDepth 20000 in
theorem s_X7_separation_0 {l : Launch} {G : GT} {d : Nat} {Q : AV → AH → Prop} {H : AH} {a0 x1 x2 : Int} (hG : GX l G) {M : Row} (hS : SK H (a0 + 20) M) (h_r0 : Lay LRun H a0) (h : (¬ (fl M x1) → Q (vT 1) H) ∧ (fl M x1 → (¬ (fl M x2) → Q (vT 1) H) ∧ (fl M x2 → (fl M x1) ∧ (fl M x2) ∧ Q (vI (apartM M x1 x2)) H))) (hd : 6 ≤ d := by omega) : AW l G mX7_separation (d + 1) 4 24 Q 0 [vR a0, vI x1, vI x2] [] 0 0 H := by
  refine a_aload_n dX7_separation_0 rfl rfl ?_
  refine a_iload_n dX7_separation_1 rfl rfl ?_
  refine a_callV dX7_separation_2 cw_X7_separation_2 (as := [vI x1]) rfl rfl (kRun_0 h_r0) (Nat.le_refl _) (Nat.le_of_ble_eq_true rfl) (nocov rfl) (Nat.le_of_ble_eq_true rfl) (Nat.le_of_ble_eq_true rfl) (CL.mono (k_checkFlight hG h_r0 hS) (fun r9 H9 h9 => ?_))
  obtain ⟨h8, h9⟩ := h9
  rw [h8]
  rcases h9 with ⟨c2, e9⟩ | ⟨c2, e9⟩
  · rw [e9]; exact h.1 c2
  rw [e9]
  replace h := h.2 c2
  show AW l G mX7_separation (d + 1) 4 24 Q 5 [vR a0, vI x1, vI x2] [] 1 6 H
  refine a_aload_n dX7_separation_5 rfl rfl ?_
  refine a_iload_n dX7_separation_6 rfl rfl ?_
  refine a_callV dX7_separation_7 cw_X7_separation_7 (as := [vI x2]) rfl rfl (kRun_0 h_r0) (Nat.le_refl _) (Nat.le_of_ble_eq_true rfl) (nocov rfl) (Nat.le_of_ble_eq_true rfl) (Nat.le_of_ble_eq_true rfl) (CL.mono (k_checkFlight hG h_r0 hS) (fun r9 H9 h9 => ?_))
  obtain ⟨h8, h9⟩ := h9
  rw [h8]
  rcases h9 with ⟨c7, e9⟩ | ⟨c7, e9⟩
  · rw [e9]; exact h.1 c7
  rw [e9]
  replace h := h.2 c7
  show AW l G mX7_separation (d + 1) 4 24 Q 10 [vR a0, vI x1, vI x2] [] 2 12 H
  refine a_aload_n dX7_separation_10 rfl rfl ?_
  refine a_getR dX7_separation_11 fw_RX7_26 rfl rfl (kRun_0 h_r0) (rRun_0_2 h_r0) ?_
  refine a_iload_n dX7_separation_14 rfl rfl ?_
  refine a_iload_n dX7_separation_15 rfl rfl ?_
  obtain ⟨q16_0, h⟩ := h
  obtain ⟨q16_1, h⟩ := h
  refine a_callV dX7_separation_16 cw_X7_separation_16 (as := [vI x1, vI x2]) rfl rfl (kRun_20 h_r0) (Nat.le_refl _) (Nat.le_of_ble_eq_true rfl) (nocov rfl) (Nat.le_of_ble_eq_true rfl) (Nat.le_of_ble_eq_true rfl) (CL.mono (k_gapOf hS  q16_0 q16_1) (fun r9 H9 h9 => ?_))
  rw [h9.1, h9.2]
  show AW l G mX7_separation (d + 1) 4 24 Q 19 [vR a0, vI x1, vI x2] [vI (apartM M x1 x2)] 2 12 H
  exact a_iret dX7_separation_19 rfl (Nat.le_of_ble_eq_true rfl) (Nat.le_of_ble_eq_true rfl) h


theorem dX7_runwayCount_0 : decode cX7_runwayCount 0 = .ok (.aload_n 0, 1) := by decide +kernel
theorem dX7_runwayCount_1 : decode cX7_runwayCount 1 = .ok (.getfield 26, 3) := by decide +kernel
theorem dX7_runwayCount_4 : decode cX7_runwayCount 4 = .ok (.getfield 90, 3) := by decide +kernel
theorem dX7_runwayCount_7 : decode cX7_runwayCount 7 = .ok (.getfield 94, 3) := by decide +kernel
theorem dX7_runwayCount_10 : decode cX7_runwayCount 10 = .ok (.ireturn, 1) := by decide +kernel
set_option maxRecDepth 20000 in
theorem s_X7_runwayCount_0 {l : Launch} {G : GT} {d : Nat} {Q : AV → AH → Prop} {H : AH} {a0 : Int} {M : Row} (hS : SK H (a0 + 20) M) (h_r0 : Lay LRun H a0) (h : Q (vI (M 5)) H) : AW l G mX7_runwayCount d 0 0 Q 0 [vR a0] [] 0 0 H := by
  refine a_aload_n dX7_runwayCount_0 rfl rfl ?_
  refine a_getR dX7_runwayCount_1 fw_RX7_26 rfl rfl (kRun_0 h_r0) (rRun_0_2 h_r0) ?_
  refine a_getR dX7_runwayCount_4 fw_RX7_90 rfl rfl (kRun_20 h_r0) (rRun_20_0 h_r0) ?_
  refine a_getIV dX7_runwayCount_7 fw_RX7_94 rfl rfl (kRun_21 h_r0) (sko (by omega) (sk_1_0 hS)) ?_
  exact a_iret dX7_runwayCount_10 rfl (Nat.le_of_ble_eq_true rfl) (Nat.le_of_ble_eq_true rfl) h


theorem dX7_flightCount_0 : decode cX7_flightCount 0 = .ok (.aload_n 0, 1) := by decide +kernel
theorem dX7_flightCount_1 : decode cX7_flightCount 1 = .ok (.getfield 26, 3) := by decide +kernel
theorem dX7_flightCount_4 : decode cX7_flightCount 4 = .ok (.getfield 77, 3) := by decide +kernel
theorem dX7_flightCount_7 : decode cX7_flightCount 7 = .ok (.getfield 81, 3) := by decide +kernel
theorem dX7_flightCount_10 : decode cX7_flightCount 10 = .ok (.ireturn, 1) := by decide +kernel
set_option maxRecDepth 20000 in
theorem s_X7_flightCount_0 {l : Launch} {G : GT} {d : Nat} {Q : AV → AH → Prop} {H : AH} {a0 : Int} {M : Row} (hS : SK H (a0 + 20) M) (h_r0 : Lay LRun H a0) (h : Q (vI (M 6)) H) : AW l G mX7_flightCount d 0 0 Q 0 [vR a0] [] 0 0 H := by
  refine a_aload_n dX7_flightCount_0 rfl rfl ?_
  refine a_getR dX7_flightCount_1 fw_RX7_26 rfl rfl (kRun_0 h_r0) (rRun_0_2 h_r0) ?_
  refine a_getR dX7_flightCount_4 fw_RX7_77 rfl rfl (kRun_20 h_r0) (rRun_20_1 h_r0) ?_
  refine a_getIV dX7_flightCount_7 fw_RX7_81 rfl rfl (kRun_25 h_r0) (sko (by omega) (sk_5_0 hS)) ?_
  exact a_iret dX7_flightCount_10 rfl (Nat.le_of_ble_eq_true rfl) (Nat.le_of_ble_eq_true rfl) h


theorem dX7_now_0 : decode cX7_now 0 = .ok (.aload_n 0, 1) := by decide +kernel
theorem dX7_now_1 : decode cX7_now 1 = .ok (.getfield 26, 3) := by decide +kernel
theorem dX7_now_4 : decode cX7_now 4 = .ok (.getfield 135, 3) := by decide +kernel
theorem dX7_now_7 : decode cX7_now 7 = .ok (.ireturn, 1) := by decide +kernel
set_option maxRecDepth 20000 in
theorem s_X7_now_0 {l : Launch} {G : GT} {d : Nat} {Q : AV → AH → Prop} {H : AH} {a0 : Int} {M : Row} (hS : SK H (a0 + 20) M) (h_r0 : Lay LRun H a0) (h : Q (vI (M 0)) H) : AW l G mX7_now d 0 0 Q 0 [vR a0] [] 0 0 H := by
  refine a_aload_n dX7_now_0 rfl rfl ?_
  refine a_getR dX7_now_1 fw_RX7_26 rfl rfl (kRun_0 h_r0) (rRun_0_2 h_r0) ?_
  refine a_getIV dX7_now_4 fw_RX7_135 rfl rfl (kRun_20 h_r0) (sko (by omega) (sk_0_2 hS)) ?_
  exact a_iret dX7_now_7 rfl (Nat.le_of_ble_eq_true rfl) (Nat.le_of_ble_eq_true rfl) h


theorem dX7_shift_0 : decode cX7_shift 0 = .ok (.aload_n 0, 1) := by decide +kernel
theorem dX7_shift_1 : decode cX7_shift 1 = .ok (.getfield 26, 3) := by decide +kernel
theorem dX7_shift_4 : decode cX7_shift 4 = .ok (.getfield 90, 3) := by decide +kernel
theorem dX7_shift_7 : decode cX7_shift 7 = .ok (.getfield 146, 3) := by decide +kernel
theorem dX7_shift_10 : decode cX7_shift 10 = .ok (.ireturn, 1) := by decide +kernel
set_option maxRecDepth 20000 in
theorem s_X7_shift_0 {l : Launch} {G : GT} {d : Nat} {Q : AV → AH → Prop} {H : AH} {a0 : Int} {M : Row} (hS : SK H (a0 + 20) M) (h_r0 : Lay LRun H a0) (h : Q (vI (M 1)) H) : AW l G mX7_shift d 0 0 Q 0 [vR a0] [] 0 0 H := by
  refine a_aload_n dX7_shift_0 rfl rfl ?_
  refine a_getR dX7_shift_1 fw_RX7_26 rfl rfl (kRun_0 h_r0) (rRun_0_2 h_r0) ?_
  refine a_getR dX7_shift_4 fw_RX7_90 rfl rfl (kRun_20 h_r0) (rRun_20_0 h_r0) ?_
  refine a_getIV dX7_shift_7 fw_RX7_146 rfl rfl (kRun_21 h_r0) (sko (by omega) (sk_1_2 hS)) ?_
  exact a_iret dX7_shift_10 rfl (Nat.le_of_ble_eq_true rfl) (Nat.le_of_ble_eq_true rfl) h


theorem dX7_doneCount_0 : decode cX7_doneCount 0 = .ok (.aload_n 0, 1) := by decide +kernel
theorem dX7_doneCount_1 : decode cX7_doneCount 1 = .ok (.getfield 26, 3) := by decide +kernel
theorem dX7_doneCount_4 : decode cX7_doneCount 4 = .ok (.getfield 251, 3) := by decide +kernel
theorem dX7_doneCount_7 : decode cX7_doneCount 7 = .ok (.ireturn, 1) := by decide +kernel
set_option maxRecDepth 20000 in
theorem s_X7_doneCount_0 {l : Launch} {G : GT} {d : Nat} {Q : AV → AH → Prop} {H : AH} {a0 : Int} {M : Row} (hS : SK H (a0 + 20) M) (h_r0 : Lay LRun H a0) (h : Q (vI (M 7)) H) : AW l G mX7_doneCount d 0 0 Q 0 [vR a0] [] 0 0 H := by
  refine a_aload_n dX7_doneCount_0 rfl rfl ?_
  refine a_getR dX7_doneCount_1 fw_RX7_26 rfl rfl (kRun_0 h_r0) (rRun_0_2 h_r0) ?_
  refine a_getIV dX7_doneCount_4 fw_RX7_251 rfl rfl (kRun_20 h_r0) (sko (by omega) (sk_0_8 hS)) ?_
  exact a_iret dX7_doneCount_7 rfl (Nat.le_of_ble_eq_true rfl) (Nat.le_of_ble_eq_true rfl) h


theorem dX7_isSmooth_0 : decode cX7_isSmooth 0 = .ok (.iconst 0, 1) := by decide +kernel
theorem dX7_isSmooth_1 : decode cX7_isSmooth 1 = .ok (.istore_n 1, 1) := by decide +kernel
theorem dX7_isSmooth_2 : decode cX7_isSmooth 2 = .ok (.iload_n 1, 1) := by decide +kernel
theorem dX7_isSmooth_3 : decode cX7_isSmooth 3 = .ok (.aload_n 0, 1) := by decide +kernel
theorem dX7_isSmooth_4 : decode cX7_isSmooth 4 = .ok (.getfield 26, 3) := by decide +kernel
theorem dX7_isSmooth_7 : decode cX7_isSmooth 7 = .ok (.getfield 77, 3) := by decide +kernel
theorem dX7_isSmooth_10 : decode cX7_isSmooth 10 = .ok (.getfield 81, 3) := by decide +kernel
theorem dX7_isSmooth_13 : decode cX7_isSmooth 13 = .ok (.if_icmp .ge 23, 3) := by decide +kernel
theorem dX7_isSmooth_16 : decode cX7_isSmooth 16 = .ok (.aload_n 0, 1) := by decide +kernel
theorem dX7_isSmooth_17 : decode cX7_isSmooth 17 = .ok (.getfield 26, 3) := by decide +kernel
theorem dX7_isSmooth_20 : decode cX7_isSmooth 20 = .ok (.getfield 257, 3) := by decide +kernel
theorem dX7_isSmooth_23 : decode cX7_isSmooth 23 = .ok (.iload_n 1, 1) := by decide +kernel
theorem dX7_isSmooth_24 : decode cX7_isSmooth 24 = .ok (.iaload, 1) := by decide +kernel
theorem dX7_isSmooth_25 : decode cX7_isSmooth 25 = .ok (.ifCond .le 5, 3) := by decide +kernel
theorem dX7_isSmooth_28 : decode cX7_isSmooth 28 = .ok (.iconst 0, 1) := by decide +kernel
theorem dX7_isSmooth_29 : decode cX7_isSmooth 29 = .ok (.ireturn, 1) := by decide +kernel
theorem dX7_isSmooth_30 : decode cX7_isSmooth 30 = .ok (.iinc 1 1, 3) := by decide +kernel
theorem dX7_isSmooth_33 : decode cX7_isSmooth 33 = .ok (.goto (-31), 3) := by decide +kernel
theorem dX7_isSmooth_36 : decode cX7_isSmooth 36 = .ok (.iconst 1, 1) := by decide +kernel
theorem dX7_isSmooth_37 : decode cX7_isSmooth 37 = .ok (.ireturn, 1) := by decide +kernel
set_option maxRecDepth 20000 in
theorem s_X7_isSmooth_0 {l : Launch} {G : GT} {d : Nat} {Q : AV → AH → Prop} {H : AH} {a0 : Int} {M : Row} (hS : SK H (a0 + 20) M) (h_r0 : Lay LRun H a0) (h : AW l G mX7_isSmooth d 0 0 Q 2 [vR a0, vI 0] [] 0 0 H) : AW l G mX7_isSmooth d 0 0 Q 0 [vR a0, vU] [] 0 0 H := by
  refine a_iconst dX7_isSmooth_0 ⟨by decide, by decide⟩ ?_
  refine a_istore_n dX7_isSmooth_1 rfl (Nat.le_of_ble_eq_true rfl) (ls' := [vR a0, vI 0]) rfl ?_
  exact h

set_option maxRecDepth 20000 in
theorem s_X7_isSmooth_2 {l : Launch} {G : GT} {d : Nat} {Q : AV → AH → Prop} {H : AH} {a0 x1 : Int} {M : Row} (hS : SK H (a0 + 20) M) (h_r0 : Lay LRun H a0) (h : ((M 6) ≤ x1 → Q (vI 1) H) ∧ (x1 < (M 6) → (0 ≤ x1 ∧ x1 < M 6) ∧ ((ofM M x1 9) ≤ 0 → (-2147483648 ≤ x1 + 1 ∧ x1 + 1 ≤ 2147483647) ∧ AW l G mX7_isSmooth d 0 0 Q 2 [vR a0, vI (x1 + 1)] [] 0 0 H) ∧ (0 < (ofM M x1 9) → Q (vI 0) H))) : AW l G mX7_isSmooth d 0 0 Q 2 [vR a0, vI x1] [] 0 0 H := by
  refine a_iload_n dX7_isSmooth_2 rfl rfl ?_
  refine a_aload_n dX7_isSmooth_3 rfl rfl ?_
  refine a_getR dX7_isSmooth_4 fw_RX7_26 rfl rfl (kRun_0 h_r0) (rRun_0_2 h_r0) ?_
  refine a_getR dX7_isSmooth_7 fw_RX7_77 rfl rfl (kRun_20 h_r0) (rRun_20_1 h_r0) ?_
  refine a_getIV dX7_isSmooth_10 fw_RX7_81 rfl rfl (kRun_25 h_r0) (sko (by omega) (sk_5_0 hS)) ?_
  refine a_icmp_ge dX7_isSmooth_13 (tgt := 36) rfl (fun c13 => ?_) (fun c13 => ?_)
  · replace h := h.1 c13
    refine a_iconst dX7_isSmooth_36 ⟨by decide, by decide⟩ ?_
    exact a_zret dX7_isSmooth_37 rfl (by decide) (Nat.le_of_ble_eq_true rfl) (Nat.le_of_ble_eq_true rfl) h
  · replace h := h.2 c13
    refine a_aload_n dX7_isSmooth_16 rfl rfl ?_
    refine a_getR dX7_isSmooth_17 fw_RX7_26 rfl rfl (kRun_0 h_r0) (rRun_0_2 h_r0) ?_
    refine a_getR dX7_isSmooth_20 fw_RX7_257 rfl rfl (kRun_20 h_r0) (rRun_20_6 h_r0) ?_
    refine a_iload_n dX7_isSmooth_23 rfl rfl ?_
    obtain ⟨q24_0, h⟩ := h
    refine b_ialdV dX7_isSmooth_24 (kRun_37 h_r0) (nRun_37 h_r0) (sk_lt hS q24_0) (sko (by omega) (sk_17 hS q24_0)) ?_
    refine a_if_le dX7_isSmooth_25 (tgt := 30) rfl (fun c25 => ?_) (fun c25 => ?_)
    · replace h := h.1 c25
      obtain ⟨q30_0, h⟩ := h
      refine a_iinc dX7_isSmooth_30 rfl (Nat.le_of_ble_eq_true rfl) (by decide) q30_0 (ls' := [vR a0, vI (x1 + 1)]) rfl ?_
      refine a_goto dX7_isSmooth_33 (tgt := 2) rfl ?_
      exact h
    · replace h := h.2 c25
      refine a_iconst dX7_isSmooth_28 ⟨by decide, by decide⟩ ?_
      exact a_zret dX7_isSmooth_29 rfl (by decide) (Nat.le_of_ble_eq_true rfl) (Nat.le_of_ble_eq_true rfl) h


theorem dX7_longerTriples_0 : decode cX7_longerTriples 0 = .ok (.aload_n 0, 1) := by decide +kernel
theorem dX7_longerTriples_1 : decode cX7_longerTriples 1 = .ok (.getfield 26, 3) := by decide +kernel
theorem dX7_longerTriples_4 : decode cX7_longerTriples 4 = .ok (.getfield 90, 3) := by decide +kernel
theorem dX7_longerTriples_7 : decode cX7_longerTriples 7 = .ok (.getfield 128, 3) := by decide +kernel
theorem dX7_longerTriples_10 : decode cX7_longerTriples 10 = .ok (.astore_n 1, 1) := by decide +kernel
theorem dX7_longerTriples_11 : decode cX7_longerTriples 11 = .ok (.iconst 0, 1) := by decide +kernel
theorem dX7_longerTriples_12 : decode cX7_longerTriples 12 = .ok (.istore_n 2, 1) := by decide +kernel
theorem dX7_longerTriples_13 : decode cX7_longerTriples 13 = .ok (.iconst 0, 1) := by decide +kernel
theorem dX7_longerTriples_14 : decode cX7_longerTriples 14 = .ok (.istore_n 3, 1) := by decide +kernel
theorem dX7_longerTriples_15 : decode cX7_longerTriples 15 = .ok (.iload_n 3, 1) := by decide +kernel
theorem dX7_longerTriples_16 : decode cX7_longerTriples 16 = .ok (.iconst 4, 1) := by decide +kernel
theorem dX7_longerTriples_17 : decode cX7_longerTriples 17 = .ok (.if_icmp .ge 71, 3) := by decide +kernel
theorem dX7_longerTriples_20 : decode cX7_longerTriples 20 = .ok (.iconst 0, 1) := by decide +kernel
theorem dX7_longerTriples_21 : decode cX7_longerTriples 21 = .ok (.istore 4, 2) := by decide +kernel
theorem dX7_longerTriples_23 : decode cX7_longerTriples 23 = .ok (.iload 4, 2) := by decide +kernel
theorem dX7_longerTriples_25 : decode cX7_longerTriples 25 = .ok (.iconst 4, 1) := by decide +kernel
theorem dX7_longerTriples_26 : decode cX7_longerTriples 26 = .ok (.if_icmp .ge 56, 3) := by decide +kernel
theorem dX7_longerTriples_29 : decode cX7_longerTriples 29 = .ok (.iconst 0, 1) := by decide +kernel
theorem dX7_longerTriples_30 : decode cX7_longerTriples 30 = .ok (.istore 5, 2) := by decide +kernel
theorem dX7_longerTriples_32 : decode cX7_longerTriples 32 = .ok (.iload 5, 2) := by decide +kernel
theorem dX7_longerTriples_34 : decode cX7_longerTriples 34 = .ok (.iconst 4, 1) := by decide +kernel
theorem dX7_longerTriples_35 : decode cX7_longerTriples 35 = .ok (.if_icmp .ge 41, 3) := by decide +kernel
theorem dX7_longerTriples_38 : decode cX7_longerTriples 38 = .ok (.aload_n 1, 1) := by decide +kernel
theorem dX7_longerTriples_39 : decode cX7_longerTriples 39 = .ok (.iload_n 3, 1) := by decide +kernel
theorem dX7_longerTriples_40 : decode cX7_longerTriples 40 = .ok (.iconst 4, 1) := by decide +kernel
theorem dX7_longerTriples_41 : decode cX7_longerTriples 41 = .ok (.imul, 1) := by decide +kernel
theorem dX7_longerTriples_42 : decode cX7_longerTriples 42 = .ok (.iload 5, 2) := by decide +kernel
theorem dX7_longerTriples_44 : decode cX7_longerTriples 44 = .ok (.iadd, 1) := by decide +kernel
theorem dX7_longerTriples_45 : decode cX7_longerTriples 45 = .ok (.iaload, 1) := by decide +kernel
theorem dX7_longerTriples_46 : decode cX7_longerTriples 46 = .ok (.aload_n 1, 1) := by decide +kernel
theorem dX7_longerTriples_47 : decode cX7_longerTriples 47 = .ok (.iload_n 3, 1) := by decide +kernel
theorem dX7_longerTriples_48 : decode cX7_longerTriples 48 = .ok (.iconst 4, 1) := by decide +kernel
theorem dX7_longerTriples_49 : decode cX7_longerTriples 49 = .ok (.imul, 1) := by decide +kernel
theorem dX7_longerTriples_50 : decode cX7_longerTriples 50 = .ok (.iload 4, 2) := by decide +kernel
theorem dX7_longerTriples_52 : decode cX7_longerTriples 52 = .ok (.iadd, 1) := by decide +kernel
theorem dX7_longerTriples_53 : decode cX7_longerTriples 53 = .ok (.iaload, 1) := by decide +kernel
theorem dX7_longerTriples_54 : decode cX7_longerTriples 54 = .ok (.aload_n 1, 1) := by decide +kernel
theorem dX7_longerTriples_55 : decode cX7_longerTriples 55 = .ok (.iload 4, 2) := by decide +kernel
theorem dX7_longerTriples_57 : decode cX7_longerTriples 57 = .ok (.iconst 4, 1) := by decide +kernel
theorem dX7_longerTriples_58 : decode cX7_longerTriples 58 = .ok (.imul, 1) := by decide +kernel
theorem dX7_longerTriples_59 : decode cX7_longerTriples 59 = .ok (.iload 5, 2) := by decide +kernel
theorem dX7_longerTriples_61 : decode cX7_longerTriples 61 = .ok (.iadd, 1) := by decide +kernel
theorem dX7_longerTriples_62 : decode cX7_longerTriples 62 = .ok (.iaload, 1) := by decide +kernel
theorem dX7_longerTriples_63 : decode cX7_longerTriples 63 = .ok (.iadd, 1) := by decide +kernel
theorem dX7_longerTriples_64 : decode cX7_longerTriples 64 = .ok (.if_icmp .le 6, 3) := by decide +kernel
theorem dX7_longerTriples_67 : decode cX7_longerTriples 67 = .ok (.iinc 2 1, 3) := by decide +kernel
theorem dX7_longerTriples_70 : decode cX7_longerTriples 70 = .ok (.iinc 5 1, 3) := by decide +kernel
theorem dX7_longerTriples_73 : decode cX7_longerTriples 73 = .ok (.goto (-41), 3) := by decide +kernel
theorem dX7_longerTriples_76 : decode cX7_longerTriples 76 = .ok (.iinc 4 1, 3) := by decide +kernel
theorem dX7_longerTriples_79 : decode cX7_longerTriples 79 = .ok (.goto (-56), 3) := by decide +kernel
theorem dX7_longerTriples_82 : decode cX7_longerTriples 82 = .ok (.iinc 3 1, 3) := by decide +kernel
theorem dX7_longerTriples_85 : decode cX7_longerTriples 85 = .ok (.goto (-70), 3) := by decide +kernel
theorem dX7_longerTriples_88 : decode cX7_longerTriples 88 = .ok (.iload_n 2, 1) := by decide +kernel
theorem dX7_longerTriples_89 : decode cX7_longerTriples 89 = .ok (.ireturn, 1) := by decide +kernel
set_option maxRecDepth 20000 in
theorem s_X7_longerTriples_0 {l : Launch} {G : GT} {d : Nat} {Q : AV → AH → Prop} {H : AH} {a0 : Int} {M : Row} (hS : SK H (a0 + 20) M) (h_r0 : Lay LRun H a0) (h : AW l G mX7_longerTriples d 0 0 Q 15 [vR a0, vR (a0 + 22), vI 0, vI 0, vU, vU] [] 0 0 H) : AW l G mX7_longerTriples d 0 0 Q 0 [vR a0, vU, vU, vU, vU, vU] [] 0 0 H := by
  refine a_aload_n dX7_longerTriples_0 rfl rfl ?_
  refine a_getR dX7_longerTriples_1 fw_RX7_26 rfl rfl (kRun_0 h_r0) (rRun_0_2 h_r0) ?_
  refine a_getR dX7_longerTriples_4 fw_RX7_90 rfl rfl (kRun_20 h_r0) (rRun_20_0 h_r0) ?_
  refine a_getR dX7_longerTriples_7 fw_RX7_128 rfl rfl (kRun_21 h_r0) (rRun_21_5 h_r0) ?_
  refine a_astore_n dX7_longerTriples_10 rfl (Nat.le_of_ble_eq_true rfl) (ls' := [vR a0, vR (a0 + 22), vU, vU, vU, vU]) rfl ?_
  refine a_iconst dX7_longerTriples_11 ⟨by decide, by decide⟩ ?_
  refine a_istore_n dX7_longerTriples_12 rfl (Nat.le_of_ble_eq_true rfl) (ls' := [vR a0, vR (a0 + 22), vI 0, vU, vU, vU]) rfl ?_
  refine a_iconst dX7_longerTriples_13 ⟨by decide, by decide⟩ ?_
  refine a_istore_n dX7_longerTriples_14 rfl (Nat.le_of_ble_eq_true rfl) (ls' := [vR a0, vR (a0 + 22), vI 0, vI 0, vU, vU]) rfl ?_
  exact h

set_option maxRecDepth 20000 in
theorem s_X7_longerTriples_15 {l : Launch} {G : GT} {d : Nat} {Q : AV → AH → Prop} {H : AH} {a0 x2 x3 : Int} {M : Row} (hS : SK H (a0 + 20) M) (h_r0 : Lay LRun H a0) (h : (4 ≤ x3 → Q (vI x2) H) ∧ (x3 < 4 → AW l G mX7_longerTriples d 0 0 Q 23 [vR a0, vR (a0 + 22), vI x2, vI x3, vI 0, vU] [] 0 0 H)) : AW l G mX7_longerTriples d 0 0 Q 15 [vR a0, vR (a0 + 22), vI x2, vI x3, vU, vU] [] 0 0 H := by
  refine a_iload_n dX7_longerTriples_15 rfl rfl ?_
  refine a_iconst dX7_longerTriples_16 ⟨by decide, by decide⟩ ?_
  refine a_icmp_ge dX7_longerTriples_17 (tgt := 88) rfl (fun c17 => ?_) (fun c17 => ?_)
  · replace h := h.1 c17
    refine a_iload_n dX7_longerTriples_88 rfl rfl ?_
    exact a_iret dX7_longerTriples_89 rfl (Nat.le_of_ble_eq_true rfl) (Nat.le_of_ble_eq_true rfl) h
  · replace h := h.2 c17
    refine a_iconst dX7_longerTriples_20 ⟨by decide, by decide⟩ ?_
    refine a_istore dX7_longerTriples_21 (Nat.le_of_ble_eq_true rfl) (ls' := [vR a0, vR (a0 + 22), vI x2, vI x3, vI 0, vU]) rfl ?_
    exact h

set_option maxRecDepth 20000 in
theorem s_X7_longerTriples_23 {l : Launch} {G : GT} {d : Nat} {Q : AV → AH → Prop} {H : AH} {a0 x2 x3 x4 : Int} {M : Row} (hS : SK H (a0 + 20) M) (h_r0 : Lay LRun H a0) (h : (4 ≤ x4 → (-2147483648 ≤ x3 + 1 ∧ x3 + 1 ≤ 2147483647) ∧ AW l G mX7_longerTriples d 0 0 Q 15 [vR a0, vR (a0 + 22), vI x2, vI (x3 + 1), vU, vU] [] 0 0 H) ∧ (x4 < 4 → AW l G mX7_longerTriples d 0 0 Q 32 [vR a0, vR (a0 + 22), vI x2, vI x3, vI x4, vI 0] [] 0 0 H)) : AW l G mX7_longerTriples d 0 0 Q 23 [vR a0, vR (a0 + 22), vI x2, vI x3, vI x4, vU] [] 0 0 H := by
  refine a_iload dX7_longerTriples_23 rfl ?_
  refine a_iconst dX7_longerTriples_25 ⟨by decide, by decide⟩ ?_
  refine a_icmp_ge dX7_longerTriples_26 (tgt := 82) rfl (fun c26 => ?_) (fun c26 => ?_)
  · replace h := h.1 c26
    obtain ⟨q82_0, h⟩ := h
    refine a_iinc dX7_longerTriples_82 rfl (Nat.le_of_ble_eq_true rfl) (by decide) q82_0 (ls' := [vR a0, vR (a0 + 22), vI x2, vI (x3 + 1), vI x4, vU]) rfl ?_
    refine a_goto dX7_longerTriples_85 (tgt := 15) rfl ?_
    exact a_weak (wk_e (wk_e (wk_e (wk_e (wk_u (wk_u wk_n)))))) h
  · replace h := h.2 c26
    refine a_iconst dX7_longerTriples_29 ⟨by decide, by decide⟩ ?_
    refine a_istore dX7_longerTriples_30 (Nat.le_of_ble_eq_true rfl) (ls' := [vR a0, vR (a0 + 22), vI x2, vI x3, vI x4, vI 0]) rfl ?_
    exact h

set_option maxRecDepth 20000 in
theorem s_X7_longerTriples_32 {l : Launch} {G : GT} {d : Nat} {Q : AV → AH → Prop} {H : AH} {a0 x2 x3 x4 x5 : Int} {M : Row} (hS : SK H (a0 + 20) M) (h_r0 : Lay LRun H a0) (h : (4 ≤ x5 → (-2147483648 ≤ x4 + 1 ∧ x4 + 1 ≤ 2147483647) ∧ AW l G mX7_longerTriples d 0 0 Q 23 [vR a0, vR (a0 + 22), vI x2, vI x3, vI (x4 + 1), vU] [] 0 0 H) ∧ (x5 < 4 → (-2147483648 ≤ x3 * 4 ∧ x3 * 4 ≤ 2147483647) ∧ (-2147483648 ≤ (x3 * 4) + x5 ∧ (x3 * 4) + x5 ≤ 2147483647) ∧ (0 ≤ ((x3 * 4) + x5) ∧ ((x3 * 4) + x5) < 16) ∧ (-2147483648 ≤ (x3 * 4) + x4 ∧ (x3 * 4) + x4 ≤ 2147483647) ∧ (0 ≤ ((x3 * 4) + x4) ∧ ((x3 * 4) + x4) < 16) ∧ (-2147483648 ≤ x4 * 4 ∧ x4 * 4 ≤ 2147483647) ∧ (-2147483648 ≤ (x4 * 4) + x5 ∧ (x4 * 4) + x5 ≤ 2147483647) ∧ (0 ≤ ((x4 * 4) + x5) ∧ ((x4 * 4) + x5) < 16) ∧ (-2147483648 ≤ (M (8 + ((x3 * 4) + x4))) + (M (8 + ((x4 * 4) + x5))) ∧ (M (8 + ((x3 * 4) + x4))) + (M (8 + ((x4 * 4) + x5))) ≤ 2147483647) ∧ ((M (8 + ((x3 * 4) + x5))) ≤ ((M (8 + ((x3 * 4) + x4))) + (M (8 + ((x4 * 4) + x5)))) → (-2147483648 ≤ x5 + 1 ∧ x5 + 1 ≤ 2147483647) ∧ AW l G mX7_longerTriples d 0 0 Q 32 [vR a0, vR (a0 + 22), vI x2, vI x3, vI x4, vI (x5 + 1)] [] 0 0 H) ∧ (((M (8 + ((x3 * 4) + x4))) + (M (8 + ((x4 * 4) + x5)))) < (M (8 + ((x3 * 4) + x5))) → (-2147483648 ≤ x2 + 1 ∧ x2 + 1 ≤ 2147483647) ∧ (-2147483648 ≤ x5 + 1 ∧ x5 + 1 ≤ 2147483647) ∧ AW l G mX7_longerTriples d 0 0 Q 32 [vR a0, vR (a0 + 22), vI (x2 + 1), vI x3, vI x4, vI (x5 + 1)] [] 0 0 H))) : AW l G mX7_longerTriples d 0 0 Q 32 [vR a0, vR (a0 + 22), vI x2, vI x3, vI x4, vI x5] [] 0 0 H := by
  refine a_iload dX7_longerTriples_32 rfl ?_
  refine a_iconst dX7_longerTriples_34 ⟨by decide, by decide⟩ ?_
  refine a_icmp_ge dX7_longerTriples_35 (tgt := 76) rfl (fun c35 => ?_) (fun c35 => ?_)
  · replace h := h.1 c35
    obtain ⟨q76_0, h⟩ := h
    refine a_iinc dX7_longerTriples_76 rfl (Nat.le_of_ble_eq_true rfl) (by decide) q76_0 (ls' := [vR a0, vR (a0 + 22), vI x2, vI x3, vI (x4 + 1), vI x5]) rfl ?_
    refine a_goto dX7_longerTriples_79 (tgt := 23) rfl ?_
    exact a_weak (wk_e (wk_e (wk_e (wk_e (wk_e (wk_u wk_n)))))) h
  · replace h := h.2 c35
    refine a_aload_n dX7_longerTriples_38 rfl rfl ?_
    refine a_iload_n dX7_longerTriples_39 rfl rfl ?_
    refine a_iconst dX7_longerTriples_40 ⟨by decide, by decide⟩ ?_
    obtain ⟨q41_0, h⟩ := h
    refine a_imul dX7_longerTriples_41 q41_0 ?_
    refine a_iload dX7_longerTriples_42 rfl ?_
    obtain ⟨q44_0, h⟩ := h
    refine a_iadd dX7_longerTriples_44 q44_0 ?_
    obtain ⟨q45_0, h⟩ := h
    refine b_ialdV dX7_longerTriples_45 (kRun_22 h_r0) (nRun_22 h_r0) q45_0 (sko (by omega) (sk_2 hS q45_0)) ?_
    refine a_aload_n dX7_longerTriples_46 rfl rfl ?_
    refine a_iload_n dX7_longerTriples_47 rfl rfl ?_
    refine a_iconst dX7_longerTriples_48 ⟨by decide, by decide⟩ ?_
    refine a_imul dX7_longerTriples_49 q41_0 ?_
    refine a_iload dX7_longerTriples_50 rfl ?_
    obtain ⟨q52_0, h⟩ := h
    refine a_iadd dX7_longerTriples_52 q52_0 ?_
    obtain ⟨q53_0, h⟩ := h
    refine b_ialdV dX7_longerTriples_53 (kRun_22 h_r0) (nRun_22 h_r0) q53_0 (sko (by omega) (sk_2 hS q53_0)) ?_
    refine a_aload_n dX7_longerTriples_54 rfl rfl ?_
    refine a_iload dX7_longerTriples_55 rfl ?_
    refine a_iconst dX7_longerTriples_57 ⟨by decide, by decide⟩ ?_
    obtain ⟨q58_0, h⟩ := h
    refine a_imul dX7_longerTriples_58 q58_0 ?_
    refine a_iload dX7_longerTriples_59 rfl ?_
    obtain ⟨q61_0, h⟩ := h
    refine a_iadd dX7_longerTriples_61 q61_0 ?_
    obtain ⟨q62_0, h⟩ := h
    refine b_ialdV dX7_longerTriples_62 (kRun_22 h_r0) (nRun_22 h_r0) q62_0 (sko (by omega) (sk_2 hS q62_0)) ?_
    obtain ⟨q63_0, h⟩ := h
    refine a_iadd dX7_longerTriples_63 q63_0 ?_
    refine a_icmp_le dX7_longerTriples_64 (tgt := 70) rfl (fun c64 => ?_) (fun c64 => ?_)
    · replace h := h.1 c64
      obtain ⟨q70_0, h⟩ := h
      refine a_iinc dX7_longerTriples_70 rfl (Nat.le_of_ble_eq_true rfl) (by decide) q70_0 (ls' := [vR a0, vR (a0 + 22), vI x2, vI x3, vI x4, vI (x5 + 1)]) rfl ?_
      refine a_goto dX7_longerTriples_73 (tgt := 32) rfl ?_
      exact h
    · replace h := h.2 c64
      obtain ⟨q67_0, h⟩ := h
      refine a_iinc dX7_longerTriples_67 rfl (Nat.le_of_ble_eq_true rfl) (by decide) q67_0 (ls' := [vR a0, vR (a0 + 22), vI (x2 + 1), vI x3, vI x4, vI x5]) rfl ?_
      obtain ⟨q70_0, h⟩ := h
      refine a_iinc dX7_longerTriples_70 rfl (Nat.le_of_ble_eq_true rfl) (by decide) q70_0 (ls' := [vR a0, vR (a0 + 22), vI (x2 + 1), vI x3, vI x4, vI (x5 + 1)]) rfl ?_
      refine a_goto dX7_longerTriples_73 (tgt := 32) rfl ?_
      exact h


theorem dX7_doneAt_0 : decode cX7_doneAt 0 = .ok (.iload_n 1, 1) := by decide +kernel
theorem dX7_doneAt_1 : decode cX7_doneAt 1 = .ok (.ifCond .lt 14, 3) := by decide +kernel
theorem dX7_doneAt_4 : decode cX7_doneAt 4 = .ok (.iload_n 1, 1) := by decide +kernel
theorem dX7_doneAt_5 : decode cX7_doneAt 5 = .ok (.aload_n 0, 1) := by decide +kernel
theorem dX7_doneAt_6 : decode cX7_doneAt 6 = .ok (.getfield 26, 3) := by decide +kernel
theorem dX7_doneAt_9 : decode cX7_doneAt 9 = .ok (.getfield 251, 3) := by decide +kernel
theorem dX7_doneAt_12 : decode cX7_doneAt 12 = .ok (.if_icmp .lt 5, 3) := by decide +kernel
theorem dX7_doneAt_15 : decode cX7_doneAt 15 = .ok (.iconst (-1), 1) := by decide +kernel
theorem dX7_doneAt_16 : decode cX7_doneAt 16 = .ok (.ireturn, 1) := by decide +kernel
theorem dX7_doneAt_17 : decode cX7_doneAt 17 = .ok (.aload_n 0, 1) := by decide +kernel
theorem dX7_doneAt_18 : decode cX7_doneAt 18 = .ok (.getfield 26, 3) := by decide +kernel
theorem dX7_doneAt_21 : decode cX7_doneAt 21 = .ok (.getfield 254, 3) := by decide +kernel
theorem dX7_doneAt_24 : decode cX7_doneAt 24 = .ok (.iload_n 1, 1) := by decide +kernel
theorem dX7_doneAt_25 : decode cX7_doneAt 25 = .ok (.iaload, 1) := by decide +kernel
theorem dX7_doneAt_26 : decode cX7_doneAt 26 = .ok (.ireturn, 1) := by decide +kernel
set_option maxRecDepth 20000 in
theorem s_X7_doneAt_0 {l : Launch} {G : GT} {d : Nat} {Q : AV → AH → Prop} {H : AH} {a0 x1 : Int} {M : Row} (hS : SK H (a0 + 20) M) (h_r0 : Lay LRun H a0) (h : (x1 < 0 → Q (vI (-1)) H) ∧ (0 ≤ x1 → (x1 < (M 7) → (0 ≤ x1 ∧ x1 < M 7) ∧ Q (vI (M (32 + x1))) H) ∧ ((M 7) ≤ x1 → Q (vI (-1)) H))) : AW l G mX7_doneAt d 0 0 Q 0 [vR a0, vI x1] [] 0 0 H := by
  refine a_iload_n dX7_doneAt_0 rfl rfl ?_
  refine a_if_lt dX7_doneAt_1 (tgt := 15) rfl (fun c1 => ?_) (fun c1 => ?_)
  · replace h := h.1 c1
    refine a_iconst dX7_doneAt_15 ⟨by decide, by decide⟩ ?_
    exact a_iret dX7_doneAt_16 rfl (Nat.le_of_ble_eq_true rfl) (Nat.le_of_ble_eq_true rfl) h
  · replace h := h.2 c1
    refine a_iload_n dX7_doneAt_4 rfl rfl ?_
    refine a_aload_n dX7_doneAt_5 rfl rfl ?_
    refine a_getR dX7_doneAt_6 fw_RX7_26 rfl rfl (kRun_0 h_r0) (rRun_0_2 h_r0) ?_
    refine a_getIV dX7_doneAt_9 fw_RX7_251 rfl rfl (kRun_20 h_r0) (sko (by omega) (sk_0_8 hS)) ?_
    refine a_icmp_lt dX7_doneAt_12 (tgt := 17) rfl (fun c12 => ?_) (fun c12 => ?_)
    · replace h := h.1 c12
      refine a_aload_n dX7_doneAt_17 rfl rfl ?_
      refine a_getR dX7_doneAt_18 fw_RX7_26 rfl rfl (kRun_0 h_r0) (rRun_0_2 h_r0) ?_
      refine a_getR dX7_doneAt_21 fw_RX7_254 rfl rfl (kRun_20 h_r0) (rRun_20_7 h_r0) ?_
      refine a_iload_n dX7_doneAt_24 rfl rfl ?_
      obtain ⟨q25_0, h⟩ := h
      refine b_ialdV dX7_doneAt_25 (kRun_38 h_r0) (nRun_38 h_r0) (sk_ld hS q25_0) (sko (by omega) (sk_18 hS q25_0)) ?_
      exact a_iret dX7_doneAt_26 rfl (Nat.le_of_ble_eq_true rfl) (Nat.le_of_ble_eq_true rfl) h
    · replace h := h.2 c12
      refine a_iconst dX7_doneAt_15 ⟨by decide, by decide⟩ ?_
      exact a_iret dX7_doneAt_16 rfl (Nat.le_of_ble_eq_true rfl) (Nat.le_of_ble_eq_true rfl) h


