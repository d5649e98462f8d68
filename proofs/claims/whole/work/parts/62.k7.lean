theorem dX7_timeOf_0 : decode cX7_timeOf 0 = .ok (.aload_n 0, 1) := by decide +kernel
theorem dX7_timeOf_1 : decode cX7_timeOf 1 = .ok (.iload_n 1, 1) := by decide +kernel
theorem dX7_timeOf_2 : decode cX7_timeOf 2 = .ok (.invokevirtual 99, 3) := by decide +kernel
theorem dX7_timeOf_5 : decode cX7_timeOf 5 = .ok (.aload_n 0, 1) := by decide +kernel
theorem dX7_timeOf_6 : decode cX7_timeOf 6 = .ok (.getfield 26, 3) := by decide +kernel
theorem dX7_timeOf_9 : decode cX7_timeOf 9 = .ok (.getfield 170, 3) := by decide +kernel
theorem dX7_timeOf_12 : decode cX7_timeOf 12 = .ok (.iload_n 1, 1) := by decide +kernel
theorem dX7_timeOf_13 : decode cX7_timeOf 13 = .ok (.iaload, 1) := by decide +kernel
theorem dX7_timeOf_14 : decode cX7_timeOf 14 = .ok (.iconst 3, 1) := by decide +kernel
theorem dX7_timeOf_15 : decode cX7_timeOf 15 = .ok (.if_icmp .ne 5, 3) := by decide +kernel
theorem dX7_timeOf_18 : decode cX7_timeOf 18 = .ok (.iconst (-1), 1) := by decide +kernel
theorem dX7_timeOf_19 : decode cX7_timeOf 19 = .ok (.ireturn, 1) := by decide +kernel
theorem dX7_timeOf_20 : decode cX7_timeOf 20 = .ok (.aload_n 0, 1) := by decide +kernel
theorem dX7_timeOf_21 : decode cX7_timeOf 21 = .ok (.getfield 19, 3) := by decide +kernel
theorem dX7_timeOf_24 : decode cX7_timeOf 24 = .ok (.aload_n 0, 1) := by decide +kernel
theorem dX7_timeOf_25 : decode cX7_timeOf 25 = .ok (.getfield 26, 3) := by decide +kernel
theorem dX7_timeOf_28 : decode cX7_timeOf 28 = .ok (.iload_n 1, 1) := by decide +kernel
theorem dX7_timeOf_29 : decode cX7_timeOf 29 = .ok (.invokevirtual 186, 3) := by decide +kernel
theorem dX7_timeOf_32 : decode cX7_timeOf 32 = .ok (.ireturn, 1) := by decide +kernel
set_option maxRecDepth 20000 in
theorem s_X7_timeOf_0 {l : Launch} {G : GT} {d : Nat} {Q : AV → AH → Prop} {H : AH} {a0 x1 : Int} (hG : GX l G) {M : Row} (hS : SK H (a0 + 20) M) (h_r0 : Lay LRun H a0) (h : (¬ (fl M x1) → Q (vT 1) H) ∧ (fl M x1 → (0 ≤ x1 ∧ x1 < M 6) ∧ (¬ (ofM M x1 7) = 3 → CL l G mX2_timeIn d 0 0 [vR (a0 + 3), vR (a0 + 20), vI x1] H (fun r9 H1 => Lay LRun H1 a0 ∧ SK H1 (a0 + 20) M ∧ ∃ y1 : Int, r9 = vI y1 ∧ Q (vI y1) H1)) ∧ ((ofM M x1 7) = 3 → Q (vI (-1)) H))) (hd : 6 ≤ d := by omega) : AW l G mX7_timeOf (d + 1) 4 24 Q 0 [vR a0, vI x1] [] 0 0 H := by
  refine a_aload_n dX7_timeOf_0 rfl rfl ?_
  refine a_iload_n dX7_timeOf_1 rfl rfl ?_
  refine a_callV dX7_timeOf_2 cw_X7_timeOf_2 (as := [vI x1]) rfl rfl (kRun_0 h_r0) (Nat.le_refl _) (Nat.le_of_ble_eq_true rfl) (nocov rfl) (Nat.le_of_ble_eq_true rfl) (Nat.le_of_ble_eq_true rfl) (CL.mono (k_checkFlight hG h_r0 hS) (fun r9 H9 h9 => ?_))
  obtain ⟨h8, h9⟩ := h9
  rw [h8]
  rcases h9 with ⟨c2, e9⟩ | ⟨c2, e9⟩
  · rw [e9]; exact h.1 c2
  rw [e9]
  replace h := h.2 c2
  show AW l G mX7_timeOf (d + 1) 4 24 Q 5 [vR a0, vI x1] [] 1 6 H
  refine a_aload_n dX7_timeOf_5 rfl rfl ?_
  refine a_getR dX7_timeOf_6 fw_RX7_26 rfl rfl (kRun_0 h_r0) (rRun_0_2 h_r0) ?_
  refine a_getR dX7_timeOf_9 fw_RX7_170 rfl rfl (kRun_20 h_r0) (rRun_20_4 h_r0) ?_
  refine a_iload_n dX7_timeOf_12 rfl rfl ?_
  obtain ⟨q13_0, h⟩ := h
  refine b_ialdV dX7_timeOf_13 (kRun_35 h_r0) (nRun_35 h_r0) (sk_lt hS q13_0) (sko (by omega) (sk_15 hS q13_0)) ?_
  refine a_iconst dX7_timeOf_14 ⟨by decide, by decide⟩ ?_
  refine a_icmp_ne dX7_timeOf_15 (tgt := 20) rfl (fun c15 => ?_) (fun c15 => ?_)
  · replace h := h.1 c15
    refine a_aload_n dX7_timeOf_20 rfl rfl ?_
    refine a_getR dX7_timeOf_21 fw_RX7_19 rfl rfl (kRun_0 h_r0) (rRun_0_1 h_r0) ?_
    refine a_aload_n dX7_timeOf_24 rfl rfl ?_
    refine a_getR dX7_timeOf_25 fw_RX7_26 rfl rfl (kRun_0 h_r0) (rRun_0_2 h_r0) ?_
    refine a_iload_n dX7_timeOf_28 rfl rfl ?_
    refine a_callV dX7_timeOf_29 cw_X7_timeOf_29 (as := [vR (a0 + 20), vI x1]) rfl rfl (kRun_3 h_r0) (Nat.le_refl _) (Nat.le_of_ble_eq_true rfl) (nocov rfl) (Nat.le_of_ble_eq_true rfl) (Nat.le_of_ble_eq_true rfl) (CL.mono h (fun r9 H1 h => ?_))
    obtain ⟨h_r0_1, hSr0_20_1, y1, e9, h⟩ := h
    rw [e9]
    show AW l G mX7_timeOf (d + 1) 4 24 Q 32 [vR a0, vI x1] [vI y1] 1 6 H1
    exact a_iret dX7_timeOf_32 rfl (Nat.le_of_ble_eq_true rfl) (Nat.le_of_ble_eq_true rfl) h
  · replace h := h.2 c15
    refine a_iconst dX7_timeOf_18 ⟨by decide, by decide⟩ ?_
    exact a_iret dX7_timeOf_19 rfl (Nat.le_of_ble_eq_true rfl) (Nat.le_of_ble_eq_true rfl) h


theorem dX7_placeOf_0 : decode cX7_placeOf 0 = .ok (.aload_n 0, 1) := by decide +kernel
theorem dX7_placeOf_1 : decode cX7_placeOf 1 = .ok (.iload_n 1, 1) := by decide +kernel
theorem dX7_placeOf_2 : decode cX7_placeOf 2 = .ok (.invokevirtual 99, 3) := by decide +kernel
theorem dX7_placeOf_5 : decode cX7_placeOf 5 = .ok (.aload_n 0, 1) := by decide +kernel
theorem dX7_placeOf_6 : decode cX7_placeOf 6 = .ok (.getfield 26, 3) := by decide +kernel
theorem dX7_placeOf_9 : decode cX7_placeOf 9 = .ok (.getfield 170, 3) := by decide +kernel
theorem dX7_placeOf_12 : decode cX7_placeOf 12 = .ok (.iload_n 1, 1) := by decide +kernel
theorem dX7_placeOf_13 : decode cX7_placeOf 13 = .ok (.iaload, 1) := by decide +kernel
theorem dX7_placeOf_14 : decode cX7_placeOf 14 = .ok (.ifCond .eq 5, 3) := by decide +kernel
theorem dX7_placeOf_17 : decode cX7_placeOf 17 = .ok (.iconst (-1), 1) := by decide +kernel
theorem dX7_placeOf_18 : decode cX7_placeOf 18 = .ok (.ireturn, 1) := by decide +kernel
theorem dX7_placeOf_19 : decode cX7_placeOf 19 = .ok (.aload_n 0, 1) := by decide +kernel
theorem dX7_placeOf_20 : decode cX7_placeOf 20 = .ok (.getfield 19, 3) := by decide +kernel
theorem dX7_placeOf_23 : decode cX7_placeOf 23 = .ok (.aload_n 0, 1) := by decide +kernel
theorem dX7_placeOf_24 : decode cX7_placeOf 24 = .ok (.getfield 26, 3) := by decide +kernel
theorem dX7_placeOf_27 : decode cX7_placeOf 27 = .ok (.aload_n 0, 1) := by decide +kernel
theorem dX7_placeOf_28 : decode cX7_placeOf 28 = .ok (.getfield 26, 3) := by decide +kernel
theorem dX7_placeOf_31 : decode cX7_placeOf 31 = .ok (.getfield 157, 3) := by decide +kernel
theorem dX7_placeOf_34 : decode cX7_placeOf 34 = .ok (.iload_n 1, 1) := by decide +kernel
theorem dX7_placeOf_35 : decode cX7_placeOf 35 = .ok (.iaload, 1) := by decide +kernel
theorem dX7_placeOf_36 : decode cX7_placeOf 36 = .ok (.invokevirtual 189, 3) := by decide +kernel
theorem dX7_placeOf_39 : decode cX7_placeOf 39 = .ok (.aload_n 0, 1) := by decide +kernel
theorem dX7_placeOf_40 : decode cX7_placeOf 40 = .ok (.getfield 26, 3) := by decide +kernel
theorem dX7_placeOf_43 : decode cX7_placeOf 43 = .ok (.iload_n 1, 1) := by decide +kernel
theorem dX7_placeOf_44 : decode cX7_placeOf 44 = .ok (.invokevirtual 193, 3) := by decide +kernel
theorem dX7_placeOf_47 : decode cX7_placeOf 47 = .ok (.ireturn, 1) := by decide +kernel
set_option maxRecDepth 20000 in
theorem s_X7_placeOf_0 {l : Launch} {G : GT} {d : Nat} {Q : AV → AH → Prop} {H : AH} {a0 x1 : Int} (hG : GX l G) {M : Row} (hS : SK H (a0 + 20) M) (h_r0 : Lay LRun H a0) (h : (¬ (fl M x1) → Q (vT 1) H) ∧ (fl M x1 → (0 ≤ x1 ∧ x1 < M 6) ∧ ((ofM M x1 7) = 0 → CL l G mX2_refresh d 0 0 [vR (a0 + 3), vR (a0 + 20), vI (ofM M x1 6)] H (fun r9 H1 => Lay LRun H1 a0 ∧ SK H1 (a0 + 20) M ∧ r9 = vV ∧ CL l G mX6_placeIn d 0 0 [vR (a0 + 20), vI x1] H1 (fun r9 H2 => Lay LRun H2 a0 ∧ SK H2 (a0 + 20) M ∧ ∃ y2 : Int, r9 = vI y2 ∧ Q (vI y2) H2))) ∧ (¬ (ofM M x1 7) = 0 → Q (vI (-1)) H))) (hd : 6 ≤ d := by omega) : AW l G mX7_placeOf (d + 1) 4 24 Q 0 [vR a0, vI x1] [] 0 0 H := by
  refine a_aload_n dX7_placeOf_0 rfl rfl ?_
  refine a_iload_n dX7_placeOf_1 rfl rfl ?_
  refine a_callV dX7_placeOf_2 cw_X7_placeOf_2 (as := [vI x1]) rfl rfl (kRun_0 h_r0) (Nat.le_refl _) (Nat.le_of_ble_eq_true rfl) (nocov rfl) (Nat.le_of_ble_eq_true rfl) (Nat.le_of_ble_eq_true rfl) (CL.mono (k_checkFlight hG h_r0 hS) (fun r9 H9 h9 => ?_))
  obtain ⟨h8, h9⟩ := h9
  rw [h8]
  rcases h9 with ⟨c2, e9⟩ | ⟨c2, e9⟩
  · rw [e9]; exact h.1 c2
  rw [e9]
  replace h := h.2 c2
  show AW l G mX7_placeOf (d + 1) 4 24 Q 5 [vR a0, vI x1] [] 1 6 H
  refine a_aload_n dX7_placeOf_5 rfl rfl ?_
  refine a_getR dX7_placeOf_6 fw_RX7_26 rfl rfl (kRun_0 h_r0) (rRun_0_2 h_r0) ?_
  refine a_getR dX7_placeOf_9 fw_RX7_170 rfl rfl (kRun_20 h_r0) (rRun_20_4 h_r0) ?_
  refine a_iload_n dX7_placeOf_12 rfl rfl ?_
  obtain ⟨q13_0, h⟩ := h
  refine b_ialdV dX7_placeOf_13 (kRun_35 h_r0) (nRun_35 h_r0) (sk_lt hS q13_0) (sko (by omega) (sk_15 hS q13_0)) ?_
  refine a_if_eq dX7_placeOf_14 (tgt := 19) rfl (fun c14 => ?_) (fun c14 => ?_)
  · replace h := h.1 c14
    refine a_aload_n dX7_placeOf_19 rfl rfl ?_
    refine a_getR dX7_placeOf_20 fw_RX7_19 rfl rfl (kRun_0 h_r0) (rRun_0_1 h_r0) ?_
    refine a_aload_n dX7_placeOf_23 rfl rfl ?_
    refine a_getR dX7_placeOf_24 fw_RX7_26 rfl rfl (kRun_0 h_r0) (rRun_0_2 h_r0) ?_
    refine a_aload_n dX7_placeOf_27 rfl rfl ?_
    refine a_getR dX7_placeOf_28 fw_RX7_26 rfl rfl (kRun_0 h_r0) (rRun_0_2 h_r0) ?_
    refine a_getR dX7_placeOf_31 fw_RX7_157 rfl rfl (kRun_20 h_r0) (rRun_20_3 h_r0) ?_
    refine a_iload_n dX7_placeOf_34 rfl rfl ?_
    refine b_ialdV dX7_placeOf_35 (kRun_34 h_r0) (nRun_34 h_r0) (sk_lt hS q13_0) (sko (by omega) (sk_14 hS q13_0)) ?_
    refine a_callV dX7_placeOf_36 cw_X7_placeOf_36 (as := [vR (a0 + 20), vI (ofM M x1 6)]) rfl rfl (kRun_3 h_r0) (Nat.le_refl _) (Nat.le_of_ble_eq_true rfl) (nocov rfl) (Nat.le_of_ble_eq_true rfl) (Nat.le_of_ble_eq_true rfl) (CL.mono h (fun r9 H1 h => ?_))
    obtain ⟨h_r0_1, hSr0_20_1, e9, h⟩ := h
    rw [e9]
    show AW l G mX7_placeOf (d + 1) 4 24 Q 39 [vR a0, vI x1] [] 1 6 H1
    refine a_aload_n dX7_placeOf_39 rfl rfl ?_
    refine a_getR dX7_placeOf_40 fw_RX7_26 rfl rfl (kRun_0 h_r0_1) (rRun_0_2 h_r0_1) ?_
    refine a_iload_n dX7_placeOf_43 rfl rfl ?_
    refine a_callV dX7_placeOf_44 cw_X7_placeOf_44 (as := [vI x1]) rfl rfl (kRun_20 h_r0_1) (Nat.le_refl _) (Nat.le_of_ble_eq_true rfl) (nocov rfl) (Nat.le_of_ble_eq_true rfl) (Nat.le_of_ble_eq_true rfl) (CL.mono h (fun r9 H2 h => ?_))
    obtain ⟨h_r0_2, hSr0_20_2, y2, e9, h⟩ := h
    rw [e9]
    show AW l G mX7_placeOf (d + 1) 4 24 Q 47 [vR a0, vI x1] [vI y2] 1 6 H2
    exact a_iret dX7_placeOf_47 rfl (Nat.le_of_ble_eq_true rfl) (Nat.le_of_ble_eq_true rfl) h
  · replace h := h.2 c14
    refine a_iconst dX7_placeOf_17 ⟨by decide, by decide⟩ ?_
    exact a_iret dX7_placeOf_18 rfl (Nat.le_of_ble_eq_true rfl) (Nat.le_of_ble_eq_true rfl) h


theorem dX7_firstComePlace_0 : decode cX7_firstComePlace 0 = .ok (.aload_n 0, 1) := by decide +kernel
theorem dX7_firstComePlace_1 : decode cX7_firstComePlace 1 = .ok (.iload_n 1, 1) := by decide +kernel
theorem dX7_firstComePlace_2 : decode cX7_firstComePlace 2 = .ok (.invokevirtual 99, 3) := by decide +kernel
theorem dX7_firstComePlace_5 : decode cX7_firstComePlace 5 = .ok (.aload_n 0, 1) := by decide +kernel
theorem dX7_firstComePlace_6 : decode cX7_firstComePlace 6 = .ok (.getfield 26, 3) := by decide +kernel
theorem dX7_firstComePlace_9 : decode cX7_firstComePlace 9 = .ok (.getfield 170, 3) := by decide +kernel
theorem dX7_firstComePlace_12 : decode cX7_firstComePlace 12 = .ok (.iload_n 1, 1) := by decide +kernel
theorem dX7_firstComePlace_13 : decode cX7_firstComePlace 13 = .ok (.iaload, 1) := by decide +kernel
theorem dX7_firstComePlace_14 : decode cX7_firstComePlace 14 = .ok (.ifCond .eq 5, 3) := by decide +kernel
theorem dX7_firstComePlace_17 : decode cX7_firstComePlace 17 = .ok (.iconst (-1), 1) := by decide +kernel
theorem dX7_firstComePlace_18 : decode cX7_firstComePlace 18 = .ok (.ireturn, 1) := by decide +kernel
theorem dX7_firstComePlace_19 : decode cX7_firstComePlace 19 = .ok (.aload_n 0, 1) := by decide +kernel
theorem dX7_firstComePlace_20 : decode cX7_firstComePlace 20 = .ok (.getfield 19, 3) := by decide +kernel
theorem dX7_firstComePlace_23 : decode cX7_firstComePlace 23 = .ok (.aload_n 0, 1) := by decide +kernel
theorem dX7_firstComePlace_24 : decode cX7_firstComePlace 24 = .ok (.getfield 26, 3) := by decide +kernel
theorem dX7_firstComePlace_27 : decode cX7_firstComePlace 27 = .ok (.iload_n 1, 1) := by decide +kernel
theorem dX7_firstComePlace_28 : decode cX7_firstComePlace 28 = .ok (.invokevirtual 196, 3) := by decide +kernel
theorem dX7_firstComePlace_31 : decode cX7_firstComePlace 31 = .ok (.ireturn, 1) := by decide +kernel
set_option maxRecDepth 20000 in
theorem s_X7_firstComePlace_0 {l : Launch} {G : GT} {d : Nat} {Q : AV → AH → Prop} {H : AH} {a0 x1 : Int} (hG : GX l G) {M : Row} (hS : SK H (a0 + 20) M) (h_r0 : Lay LRun H a0) (h : (¬ (fl M x1) → Q (vT 1) H) ∧ (fl M x1 → (0 ≤ x1 ∧ x1 < M 6) ∧ ((ofM M x1 7) = 0 → CL l G mX2_placeInLine d 0 0 [vR (a0 + 3), vR (a0 + 20), vI x1] H (fun r9 H1 => Lay LRun H1 a0 ∧ SK H1 (a0 + 20) M ∧ ∃ y1 : Int, r9 = vI y1 ∧ Q (vI y1) H1)) ∧ (¬ (ofM M x1 7) = 0 → Q (vI (-1)) H))) (hd : 6 ≤ d := by omega) : AW l G mX7_firstComePlace (d + 1) 4 24 Q 0 [vR a0, vI x1] [] 0 0 H := by
  refine a_aload_n dX7_firstComePlace_0 rfl rfl ?_
  refine a_iload_n dX7_firstComePlace_1 rfl rfl ?_
  refine a_callV dX7_firstComePlace_2 cw_X7_firstComePlace_2 (as := [vI x1]) rfl rfl (kRun_0 h_r0) (Nat.le_refl _) (Nat.le_of_ble_eq_true rfl) (nocov rfl) (Nat.le_of_ble_eq_true rfl) (Nat.le_of_ble_eq_true rfl) (CL.mono (k_checkFlight hG h_r0 hS) (fun r9 H9 h9 => ?_))
  obtain ⟨h8, h9⟩ := h9
  rw [h8]
  rcases h9 with ⟨c2, e9⟩ | ⟨c2, e9⟩
  · rw [e9]; exact h.1 c2
  rw [e9]
  replace h := h.2 c2
  show AW l G mX7_firstComePlace (d + 1) 4 24 Q 5 [vR a0, vI x1] [] 1 6 H
  refine a_aload_n dX7_firstComePlace_5 rfl rfl ?_
  refine a_getR dX7_firstComePlace_6 fw_RX7_26 rfl rfl (kRun_0 h_r0) (rRun_0_2 h_r0) ?_
  refine a_getR dX7_firstComePlace_9 fw_RX7_170 rfl rfl (kRun_20 h_r0) (rRun_20_4 h_r0) ?_
  refine a_iload_n dX7_firstComePlace_12 rfl rfl ?_
  obtain ⟨q13_0, h⟩ := h
  refine b_ialdV dX7_firstComePlace_13 (kRun_35 h_r0) (nRun_35 h_r0) (sk_lt hS q13_0) (sko (by omega) (sk_15 hS q13_0)) ?_
  refine a_if_eq dX7_firstComePlace_14 (tgt := 19) rfl (fun c14 => ?_) (fun c14 => ?_)
  · replace h := h.1 c14
    refine a_aload_n dX7_firstComePlace_19 rfl rfl ?_
    refine a_getR dX7_firstComePlace_20 fw_RX7_19 rfl rfl (kRun_0 h_r0) (rRun_0_1 h_r0) ?_
    refine a_aload_n dX7_firstComePlace_23 rfl rfl ?_
    refine a_getR dX7_firstComePlace_24 fw_RX7_26 rfl rfl (kRun_0 h_r0) (rRun_0_2 h_r0) ?_
    refine a_iload_n dX7_firstComePlace_27 rfl rfl ?_
    refine a_callV dX7_firstComePlace_28 cw_X7_firstComePlace_28 (as := [vR (a0 + 20), vI x1]) rfl rfl (kRun_3 h_r0) (Nat.le_refl _) (Nat.le_of_ble_eq_true rfl) (nocov rfl) (Nat.le_of_ble_eq_true rfl) (Nat.le_of_ble_eq_true rfl) (CL.mono h (fun r9 H1 h => ?_))
    obtain ⟨h_r0_1, hSr0_20_1, y1, e9, h⟩ := h
    rw [e9]
    show AW l G mX7_firstComePlace (d + 1) 4 24 Q 31 [vR a0, vI x1] [vI y1] 1 6 H1
    exact a_iret dX7_firstComePlace_31 rfl (Nat.le_of_ble_eq_true rfl) (Nat.le_of_ble_eq_true rfl) h
  · replace h := h.2 c14
    refine a_iconst dX7_firstComePlace_17 ⟨by decide, by decide⟩ ?_
    exact a_iret dX7_firstComePlace_18 rfl (Nat.le_of_ble_eq_true rfl) (Nat.le_of_ble_eq_true rfl) h


theorem dX7_delay_0 : decode cX7_delay 0 = .ok (.aload_n 0, 1) := by decide +kernel
theorem dX7_delay_1 : decode cX7_delay 1 = .ok (.iload_n 1, 1) := by decide +kernel
theorem dX7_delay_2 : decode cX7_delay 2 = .ok (.invokevirtual 99, 3) := by decide +kernel
theorem dX7_delay_5 : decode cX7_delay 5 = .ok (.aload_n 0, 1) := by decide +kernel
theorem dX7_delay_6 : decode cX7_delay 6 = .ok (.getfield 26, 3) := by decide +kernel
theorem dX7_delay_9 : decode cX7_delay 9 = .ok (.getfield 170, 3) := by decide +kernel
theorem dX7_delay_12 : decode cX7_delay 12 = .ok (.iload_n 1, 1) := by decide +kernel
theorem dX7_delay_13 : decode cX7_delay 13 = .ok (.iaload, 1) := by decide +kernel
theorem dX7_delay_14 : decode cX7_delay 14 = .ok (.iconst 3, 1) := by decide +kernel
theorem dX7_delay_15 : decode cX7_delay 15 = .ok (.if_icmp .ne 5, 3) := by decide +kernel
theorem dX7_delay_18 : decode cX7_delay 18 = .ok (.iconst (-1), 1) := by decide +kernel
theorem dX7_delay_19 : decode cX7_delay 19 = .ok (.ireturn, 1) := by decide +kernel
theorem dX7_delay_20 : decode cX7_delay 20 = .ok (.aload_n 0, 1) := by decide +kernel
theorem dX7_delay_21 : decode cX7_delay 21 = .ok (.getfield 19, 3) := by decide +kernel
theorem dX7_delay_24 : decode cX7_delay 24 = .ok (.aload_n 0, 1) := by decide +kernel
theorem dX7_delay_25 : decode cX7_delay 25 = .ok (.getfield 26, 3) := by decide +kernel
theorem dX7_delay_28 : decode cX7_delay 28 = .ok (.iload_n 1, 1) := by decide +kernel
theorem dX7_delay_29 : decode cX7_delay 29 = .ok (.invokevirtual 186, 3) := by decide +kernel
theorem dX7_delay_32 : decode cX7_delay 32 = .ok (.aload_n 0, 1) := by decide +kernel
theorem dX7_delay_33 : decode cX7_delay 33 = .ok (.getfield 26, 3) := by decide +kernel
theorem dX7_delay_36 : decode cX7_delay 36 = .ok (.getfield 77, 3) := by decide +kernel
theorem dX7_delay_39 : decode cX7_delay 39 = .ok (.getfield 116, 3) := by decide +kernel
theorem dX7_delay_42 : decode cX7_delay 42 = .ok (.iload_n 1, 1) := by decide +kernel
theorem dX7_delay_43 : decode cX7_delay 43 = .ok (.iaload, 1) := by decide +kernel
theorem dX7_delay_44 : decode cX7_delay 44 = .ok (.isub, 1) := by decide +kernel
theorem dX7_delay_45 : decode cX7_delay 45 = .ok (.ireturn, 1) := by decide +kernel
set_option maxRecDepth 20000 in
theorem s_X7_delay_0 {l : Launch} {G : GT} {d : Nat} {Q : AV → AH → Prop} {H : AH} {a0 x1 : Int} (hG : GX l G) {M : Row} (hS : SK H (a0 + 20) M) (h_r0 : Lay LRun H a0) (h : (¬ (fl M x1) → Q (vT 1) H) ∧ (fl M x1 → (0 ≤ x1 ∧ x1 < M 6) ∧ (¬ (ofM M x1 7) = 3 → CL l G mX2_timeIn d 0 0 [vR (a0 + 3), vR (a0 + 20), vI x1] H (fun r9 H1 => Lay LRun H1 a0 ∧ SK H1 (a0 + 20) M ∧ ∃ y1 : Int, r9 = vI y1 ∧ (-2147483648 ≤ y1 - (ofM M x1 2) ∧ y1 - (ofM M x1 2) ≤ 2147483647) ∧ Q (vI (y1 - (ofM M x1 2))) H1)) ∧ ((ofM M x1 7) = 3 → Q (vI (-1)) H))) (hd : 6 ≤ d := by omega) : AW l G mX7_delay (d + 1) 4 24 Q 0 [vR a0, vI x1] [] 0 0 H := by
  refine a_aload_n dX7_delay_0 rfl rfl ?_
  refine a_iload_n dX7_delay_1 rfl rfl ?_
  refine a_callV dX7_delay_2 cw_X7_delay_2 (as := [vI x1]) rfl rfl (kRun_0 h_r0) (Nat.le_refl _) (Nat.le_of_ble_eq_true rfl) (nocov rfl) (Nat.le_of_ble_eq_true rfl) (Nat.le_of_ble_eq_true rfl) (CL.mono (k_checkFlight hG h_r0 hS) (fun r9 H9 h9 => ?_))
  obtain ⟨h8, h9⟩ := h9
  rw [h8]
  rcases h9 with ⟨c2, e9⟩ | ⟨c2, e9⟩
  · rw [e9]; exact h.1 c2
  rw [e9]
  replace h := h.2 c2
  show AW l G mX7_delay (d + 1) 4 24 Q 5 [vR a0, vI x1] [] 1 6 H
  refine a_aload_n dX7_delay_5 rfl rfl ?_
  refine a_getR dX7_delay_6 fw_RX7_26 rfl rfl (kRun_0 h_r0) (rRun_0_2 h_r0) ?_
  refine a_getR dX7_delay_9 fw_RX7_170 rfl rfl (kRun_20 h_r0) (rRun_20_4 h_r0) ?_
  refine a_iload_n dX7_delay_12 rfl rfl ?_
  obtain ⟨q13_0, h⟩ := h
  refine b_ialdV dX7_delay_13 (kRun_35 h_r0) (nRun_35 h_r0) (sk_lt hS q13_0) (sko (by omega) (sk_15 hS q13_0)) ?_
  refine a_iconst dX7_delay_14 ⟨by decide, by decide⟩ ?_
  refine a_icmp_ne dX7_delay_15 (tgt := 20) rfl (fun c15 => ?_) (fun c15 => ?_)
  · replace h := h.1 c15
    refine a_aload_n dX7_delay_20 rfl rfl ?_
    refine a_getR dX7_delay_21 fw_RX7_19 rfl rfl (kRun_0 h_r0) (rRun_0_1 h_r0) ?_
    refine a_aload_n dX7_delay_24 rfl rfl ?_
    refine a_getR dX7_delay_25 fw_RX7_26 rfl rfl (kRun_0 h_r0) (rRun_0_2 h_r0) ?_
    refine a_iload_n dX7_delay_28 rfl rfl ?_
    refine a_callV dX7_delay_29 cw_X7_delay_29 (as := [vR (a0 + 20), vI x1]) rfl rfl (kRun_3 h_r0) (Nat.le_refl _) (Nat.le_of_ble_eq_true rfl) (nocov rfl) (Nat.le_of_ble_eq_true rfl) (Nat.le_of_ble_eq_true rfl) (CL.mono h (fun r9 H1 h => ?_))
    obtain ⟨h_r0_1, hSr0_20_1, y1, e9, h⟩ := h
    rw [e9]
    show AW l G mX7_delay (d + 1) 4 24 Q 32 [vR a0, vI x1] [vI y1] 1 6 H1
    refine a_aload_n dX7_delay_32 rfl rfl ?_
    refine a_getR dX7_delay_33 fw_RX7_26 rfl rfl (kRun_0 h_r0_1) (rRun_0_2 h_r0_1) ?_
    refine a_getR dX7_delay_36 fw_RX7_77 rfl rfl (kRun_20 h_r0_1) (rRun_20_1 h_r0_1) ?_
    refine a_getR dX7_delay_39 fw_RX7_116 rfl rfl (kRun_25 h_r0_1) (rRun_25_5 h_r0_1) ?_
    refine a_iload_n dX7_delay_42 rfl rfl ?_
    refine b_ialdV dX7_delay_43 (kRun_30 h_r0_1) (nRun_30 h_r0_1) (sk_lt hSr0_20_1 q13_0) (sko (by omega) (sk_10 hSr0_20_1 q13_0)) ?_
    obtain ⟨q44_0, h⟩ := h
    refine a_isub dX7_delay_44 q44_0 ?_
    exact a_iret dX7_delay_45 rfl (Nat.le_of_ble_eq_true rfl) (Nat.le_of_ble_eq_true rfl) h
  · replace h := h.2 c15
    refine a_iconst dX7_delay_18 ⟨by decide, by decide⟩ ?_
    exact a_iret dX7_delay_19 rfl (Nat.le_of_ble_eq_true rfl) (Nat.le_of_ble_eq_true rfl) h


theorem dX7_isLate_0 : decode cX7_isLate 0 = .ok (.aload_n 0, 1) := by decide +kernel
theorem dX7_isLate_1 : decode cX7_isLate 1 = .ok (.iload_n 1, 1) := by decide +kernel
theorem dX7_isLate_2 : decode cX7_isLate 2 = .ok (.invokevirtual 99, 3) := by decide +kernel
theorem dX7_isLate_5 : decode cX7_isLate 5 = .ok (.aload_n 0, 1) := by decide +kernel
theorem dX7_isLate_6 : decode cX7_isLate 6 = .ok (.getfield 26, 3) := by decide +kernel
theorem dX7_isLate_9 : decode cX7_isLate 9 = .ok (.getfield 170, 3) := by decide +kernel
theorem dX7_isLate_12 : decode cX7_isLate 12 = .ok (.iload_n 1, 1) := by decide +kernel
theorem dX7_isLate_13 : decode cX7_isLate 13 = .ok (.iaload, 1) := by decide +kernel
theorem dX7_isLate_14 : decode cX7_isLate 14 = .ok (.iconst 3, 1) := by decide +kernel
theorem dX7_isLate_15 : decode cX7_isLate 15 = .ok (.if_icmp .ne 5, 3) := by decide +kernel
theorem dX7_isLate_18 : decode cX7_isLate 18 = .ok (.iconst 0, 1) := by decide +kernel
theorem dX7_isLate_19 : decode cX7_isLate 19 = .ok (.ireturn, 1) := by decide +kernel
theorem dX7_isLate_20 : decode cX7_isLate 20 = .ok (.aload_n 0, 1) := by decide +kernel
theorem dX7_isLate_21 : decode cX7_isLate 21 = .ok (.getfield 19, 3) := by decide +kernel
theorem dX7_isLate_24 : decode cX7_isLate 24 = .ok (.aload_n 0, 1) := by decide +kernel
theorem dX7_isLate_25 : decode cX7_isLate 25 = .ok (.getfield 26, 3) := by decide +kernel
theorem dX7_isLate_28 : decode cX7_isLate 28 = .ok (.iload_n 1, 1) := by decide +kernel
theorem dX7_isLate_29 : decode cX7_isLate 29 = .ok (.invokevirtual 186, 3) := by decide +kernel
theorem dX7_isLate_32 : decode cX7_isLate 32 = .ok (.aload_n 0, 1) := by decide +kernel
theorem dX7_isLate_33 : decode cX7_isLate 33 = .ok (.getfield 26, 3) := by decide +kernel
theorem dX7_isLate_36 : decode cX7_isLate 36 = .ok (.getfield 77, 3) := by decide +kernel
theorem dX7_isLate_39 : decode cX7_isLate 39 = .ok (.getfield 122, 3) := by decide +kernel
theorem dX7_isLate_42 : decode cX7_isLate 42 = .ok (.iload_n 1, 1) := by decide +kernel
theorem dX7_isLate_43 : decode cX7_isLate 43 = .ok (.iaload, 1) := by decide +kernel
theorem dX7_isLate_44 : decode cX7_isLate 44 = .ok (.if_icmp .le 7, 3) := by decide +kernel
theorem dX7_isLate_47 : decode cX7_isLate 47 = .ok (.iconst 1, 1) := by decide +kernel
theorem dX7_isLate_48 : decode cX7_isLate 48 = .ok (.goto 4, 3) := by decide +kernel
theorem dX7_isLate_51 : decode cX7_isLate 51 = .ok (.iconst 0, 1) := by decide +kernel
theorem dX7_isLate_52 : decode cX7_isLate 52 = .ok (.ireturn, 1) := by decide +kernel
set_option maxRecDepth 20000 in
theorem s_X7_isLate_0 {l : Launch} {G : GT} {d : Nat} {Q : AV → AH → Prop} {H : AH} {a0 x1 : Int} (hG : GX l G) {M : Row} (hS : SK H (a0 + 20) M) (h_r0 : Lay LRun H a0) (h : (¬ (fl M x1) → Q (vT 1) H) ∧ (fl M x1 → (0 ≤ x1 ∧ x1 < M 6) ∧ (¬ (ofM M x1 7) = 3 → CL l G mX2_timeIn d 0 0 [vR (a0 + 3), vR (a0 + 20), vI x1] H (fun r9 H1 => Lay LRun H1 a0 ∧ SK H1 (a0 + 20) M ∧ ∃ y1 : Int, r9 = vI y1 ∧ (y1 ≤ (ofM M x1 4) → Q (vI 0) H1) ∧ ((ofM M x1 4) < y1 → Q (vI 1) H1))) ∧ ((ofM M x1 7) = 3 → Q (vI 0) H))) (hd : 6 ≤ d := by omega) : AW l G mX7_isLate (d + 1) 4 24 Q 0 [vR a0, vI x1] [] 0 0 H := by
  refine a_aload_n dX7_isLate_0 rfl rfl ?_
  refine a_iload_n dX7_isLate_1 rfl rfl ?_
  refine a_callV dX7_isLate_2 cw_X7_isLate_2 (as := [vI x1]) rfl rfl (kRun_0 h_r0) (Nat.le_refl _) (Nat.le_of_ble_eq_true rfl) (nocov rfl) (Nat.le_of_ble_eq_true rfl) (Nat.le_of_ble_eq_true rfl) (CL.mono (k_checkFlight hG h_r0 hS) (fun r9 H9 h9 => ?_))
  obtain ⟨h8, h9⟩ := h9
  rw [h8]
  rcases h9 with ⟨c2, e9⟩ | ⟨c2, e9⟩
  · rw [e9]; exact h.1 c2
  rw [e9]
  replace h := h.2 c2
  show AW l G mX7_isLate (d + 1) 4 24 Q 5 [vR a0, vI x1] [] 1 6 H
  refine a_aload_n dX7_isLate_5 rfl rfl ?_
  refine a_getR dX7_isLate_6 fw_RX7_26 rfl rfl (kRun_0 h_r0) (rRun_0_2 h_r0) ?_
  refine a_getR dX7_isLate_9 fw_RX7_170 rfl rfl (kRun_20 h_r0) (rRun_20_4 h_r0) ?_
  refine a_iload_n dX7_isLate_12 rfl rfl ?_
  obtain ⟨q13_0, h⟩ := h
  refine b_ialdV dX7_isLate_13 (kRun_35 h_r0) (nRun_35 h_r0) (sk_lt hS q13_0) (sko (by omega) (sk_15 hS q13_0)) ?_
  refine a_iconst dX7_isLate_14 ⟨by decide, by decide⟩ ?_
  refine a_icmp_ne dX7_isLate_15 (tgt := 20) rfl (fun c15 => ?_) (fun c15 => ?_)
  · replace h := h.1 c15
    refine a_aload_n dX7_isLate_20 rfl rfl ?_
    refine a_getR dX7_isLate_21 fw_RX7_19 rfl rfl (kRun_0 h_r0) (rRun_0_1 h_r0) ?_
    refine a_aload_n dX7_isLate_24 rfl rfl ?_
    refine a_getR dX7_isLate_25 fw_RX7_26 rfl rfl (kRun_0 h_r0) (rRun_0_2 h_r0) ?_
    refine a_iload_n dX7_isLate_28 rfl rfl ?_
    refine a_callV dX7_isLate_29 cw_X7_isLate_29 (as := [vR (a0 + 20), vI x1]) rfl rfl (kRun_3 h_r0) (Nat.le_refl _) (Nat.le_of_ble_eq_true rfl) (nocov rfl) (Nat.le_of_ble_eq_true rfl) (Nat.le_of_ble_eq_true rfl) (CL.mono h (fun r9 H1 h => ?_))
    obtain ⟨h_r0_1, hSr0_20_1, y1, e9, h⟩ := h
    rw [e9]
    show AW l G mX7_isLate (d + 1) 4 24 Q 32 [vR a0, vI x1] [vI y1] 1 6 H1
    refine a_aload_n dX7_isLate_32 rfl rfl ?_
    refine a_getR dX7_isLate_33 fw_RX7_26 rfl rfl (kRun_0 h_r0_1) (rRun_0_2 h_r0_1) ?_
    refine a_getR dX7_isLate_36 fw_RX7_77 rfl rfl (kRun_20 h_r0_1) (rRun_20_1 h_r0_1) ?_
    refine a_getR dX7_isLate_39 fw_RX7_122 rfl rfl (kRun_25 h_r0_1) (rRun_25_7 h_r0_1) ?_
    refine a_iload_n dX7_isLate_42 rfl rfl ?_
    refine b_ialdV dX7_isLate_43 (kRun_32 h_r0_1) (nRun_32 h_r0_1) (sk_lt hSr0_20_1 q13_0) (sko (by omega) (sk_12 hSr0_20_1 q13_0)) ?_
    refine a_icmp_le dX7_isLate_44 (tgt := 51) rfl (fun c44 => ?_) (fun c44 => ?_)
    · replace h := h.1 c44
      refine a_iconst dX7_isLate_51 ⟨by decide, by decide⟩ ?_
      exact a_zret dX7_isLate_52 rfl (by decide) (Nat.le_of_ble_eq_true rfl) (Nat.le_of_ble_eq_true rfl) h
    · replace h := h.2 c44
      refine a_iconst dX7_isLate_47 ⟨by decide, by decide⟩ ?_
      refine a_goto dX7_isLate_48 (tgt := 52) rfl ?_
      exact a_zret dX7_isLate_52 rfl (by decide) (Nat.le_of_ble_eq_true rfl) (Nat.le_of_ble_eq_true rfl) h
  · replace h := h.2 c15
    refine a_iconst dX7_isLate_18 ⟨by decide, by decide⟩ ?_
    exact a_zret dX7_isLate_19 rfl (by decide) (Nat.le_of_ble_eq_true rfl) (Nat.le_of_ble_eq_true rfl) h


theorem dX7_costOf_0 : decode cX7_costOf 0 = .ok (.aload_n 0, 1) := by decide +kernel
theorem dX7_costOf_1 : decode cX7_costOf 1 = .ok (.iload_n 1, 1) := by decide +kernel
theorem dX7_costOf_2 : decode cX7_costOf 2 = .ok (.invokevirtual 99, 3) := by decide +kernel
theorem dX7_costOf_5 : decode cX7_costOf 5 = .ok (.aload_n 0, 1) := by decide +kernel
theorem dX7_costOf_6 : decode cX7_costOf 6 = .ok (.getfield 26, 3) := by decide +kernel
theorem dX7_costOf_9 : decode cX7_costOf 9 = .ok (.getfield 170, 3) := by decide +kernel
theorem dX7_costOf_12 : decode cX7_costOf 12 = .ok (.iload_n 1, 1) := by decide +kernel
theorem dX7_costOf_13 : decode cX7_costOf 13 = .ok (.iaload, 1) := by decide +kernel
theorem dX7_costOf_14 : decode cX7_costOf 14 = .ok (.iconst 3, 1) := by decide +kernel
theorem dX7_costOf_15 : decode cX7_costOf 15 = .ok (.if_icmp .ne 5, 3) := by decide +kernel
theorem dX7_costOf_18 : decode cX7_costOf 18 = .ok (.fconst 0, 1) := by decide +kernel
theorem dX7_costOf_19 : decode cX7_costOf 19 = .ok (.freturn, 1) := by decide +kernel
theorem dX7_costOf_20 : decode cX7_costOf 20 = .ok (.aload_n 0, 1) := by decide +kernel
theorem dX7_costOf_21 : decode cX7_costOf 21 = .ok (.getfield 26, 3) := by decide +kernel
theorem dX7_costOf_24 : decode cX7_costOf 24 = .ok (.iload_n 1, 1) := by decide +kernel
theorem dX7_costOf_25 : decode cX7_costOf 25 = .ok (.aload_n 0, 1) := by decide +kernel
theorem dX7_costOf_26 : decode cX7_costOf 26 = .ok (.getfield 19, 3) := by decide +kernel
theorem dX7_costOf_29 : decode cX7_costOf 29 = .ok (.aload_n 0, 1) := by decide +kernel
theorem dX7_costOf_30 : decode cX7_costOf 30 = .ok (.getfield 26, 3) := by decide +kernel
theorem dX7_costOf_33 : decode cX7_costOf 33 = .ok (.iload_n 1, 1) := by decide +kernel
theorem dX7_costOf_34 : decode cX7_costOf 34 = .ok (.invokevirtual 186, 3) := by decide +kernel
theorem dX7_costOf_37 : decode cX7_costOf 37 = .ok (.invokevirtual 205, 3) := by decide +kernel
theorem dX7_costOf_40 : decode cX7_costOf 40 = .ok (.lstore_n 2, 1) := by decide +kernel
theorem dX7_costOf_41 : decode cX7_costOf 41 = .ok (.lload_n 2, 1) := by decide +kernel
theorem dX7_costOf_42 : decode cX7_costOf 42 = .ok (.l2f, 1) := by decide +kernel
theorem dX7_costOf_43 : decode cX7_costOf 43 = .ok (.ldc 209, 2) := by decide +kernel
theorem dX7_costOf_45 : decode cX7_costOf 45 = .ok (.fdiv, 1) := by decide +kernel
theorem dX7_costOf_46 : decode cX7_costOf 46 = .ok (.freturn, 1) := by decide +kernel
set_option maxRecDepth 20000 in
theorem s_X7_costOf_0 {l : Launch} {G : GT} {d : Nat} {Q : AV → AH → Prop} {H : AH} {a0 x1 : Int} (hG : GX l G) {M : Row} (hS : SK H (a0 + 20) M) (h_r0 : Lay LRun H a0) (h : (¬ (fl M x1) → Q (vT 1) H) ∧ (fl M x1 → (0 ≤ x1 ∧ x1 < M 6) ∧ (¬ (ofM M x1 7) = 3 → CL l G mX2_timeIn d 0 0 [vR (a0 + 3), vR (a0 + 20), vI x1] H (fun r9 H1 => Lay LRun H1 a0 ∧ SK H1 (a0 + 20) M ∧ ∃ y1 : Int, r9 = vI y1 ∧ (fl M x1) ∧ (0 ≤ y1 ∧ y1 ≤ 400000) ∧ (afok (al2f (costM M x1 y1)) 1148846080) ∧ Q (vF (afdiv (al2f (costM M x1 y1)) 1148846080)) H1)) ∧ ((ofM M x1 7) = 3 → Q (vF 0) H))) (hd : 6 ≤ d := by omega) : AW l G mX7_costOf (d + 1) 4 24 Q 0 [vR a0, vI x1, vU, vU] [] 0 0 H := by
  refine a_aload_n dX7_costOf_0 rfl rfl ?_
  refine a_iload_n dX7_costOf_1 rfl rfl ?_
  refine a_callV dX7_costOf_2 cw_X7_costOf_2 (as := [vI x1]) rfl rfl (kRun_0 h_r0) (Nat.le_refl _) (Nat.le_of_ble_eq_true rfl) (nocov rfl) (Nat.le_of_ble_eq_true rfl) (Nat.le_of_ble_eq_true rfl) (CL.mono (k_checkFlight hG h_r0 hS) (fun r9 H9 h9 => ?_))
  obtain ⟨h8, h9⟩ := h9
  rw [h8]
  rcases h9 with ⟨c2, e9⟩ | ⟨c2, e9⟩
  · rw [e9]; exact h.1 c2
  rw [e9]
  replace h := h.2 c2
  show AW l G mX7_costOf (d + 1) 4 24 Q 5 [vR a0, vI x1, vU, vU] [] 1 6 H
  refine a_aload_n dX7_costOf_5 rfl rfl ?_
  refine a_getR dX7_costOf_6 fw_RX7_26 rfl rfl (kRun_0 h_r0) (rRun_0_2 h_r0) ?_
  refine a_getR dX7_costOf_9 fw_RX7_170 rfl rfl (kRun_20 h_r0) (rRun_20_4 h_r0) ?_
  refine a_iload_n dX7_costOf_12 rfl rfl ?_
  obtain ⟨q13_0, h⟩ := h
  refine b_ialdV dX7_costOf_13 (kRun_35 h_r0) (nRun_35 h_r0) (sk_lt hS q13_0) (sko (by omega) (sk_15 hS q13_0)) ?_
  refine a_iconst dX7_costOf_14 ⟨by decide, by decide⟩ ?_
  refine a_icmp_ne dX7_costOf_15 (tgt := 20) rfl (fun c15 => ?_) (fun c15 => ?_)
  · replace h := h.1 c15
    refine a_aload_n dX7_costOf_20 rfl rfl ?_
    refine a_getR dX7_costOf_21 fw_RX7_26 rfl rfl (kRun_0 h_r0) (rRun_0_2 h_r0) ?_
    refine a_iload_n dX7_costOf_24 rfl rfl ?_
    refine a_aload_n dX7_costOf_25 rfl rfl ?_
    refine a_getR dX7_costOf_26 fw_RX7_19 rfl rfl (kRun_0 h_r0) (rRun_0_1 h_r0) ?_
    refine a_aload_n dX7_costOf_29 rfl rfl ?_
    refine a_getR dX7_costOf_30 fw_RX7_26 rfl rfl (kRun_0 h_r0) (rRun_0_2 h_r0) ?_
    refine a_iload_n dX7_costOf_33 rfl rfl ?_
    refine a_callV dX7_costOf_34 cw_X7_costOf_34 (as := [vR (a0 + 20), vI x1]) rfl rfl (kRun_3 h_r0) (Nat.le_refl _) (Nat.le_of_ble_eq_true rfl) (nocov rfl) (Nat.le_of_ble_eq_true rfl) (Nat.le_of_ble_eq_true rfl) (CL.mono h (fun r9 H1 h => ?_))
    obtain ⟨h_r0_1, hSr0_20_1, y1, e9, h⟩ := h
    rw [e9]
    show AW l G mX7_costOf (d + 1) 4 24 Q 37 [vR a0, vI x1, vU, vU] [vI y1, vI x1, vR (a0 + 20)] 1 6 H1
    obtain ⟨q37_0, h⟩ := h
    obtain ⟨q37_1, h⟩ := h
    refine a_callV dX7_costOf_37 cw_X7_costOf_37 (as := [vI x1, vI y1]) rfl rfl (kRun_20 h_r0_1) (Nat.le_refl _) (Nat.le_of_ble_eq_true rfl) (nocov rfl) (Nat.le_of_ble_eq_true rfl) (Nat.le_of_ble_eq_true rfl) (CL.mono (k_costAt hSr0_20_1  q37_0 q37_1) (fun r9 H9 h9 => ?_))
    rw [h9.1, h9.2]
    show AW l G mX7_costOf (d + 1) 4 24 Q 40 [vR a0, vI x1, vU, vU] [vJ (costM M x1 y1)] 1 6 H1
    refine a_lstore_n dX7_costOf_40 rfl (Nat.le_of_ble_eq_true rfl) (ls' := [vR a0, vI x1, vJ (costM M x1 y1), vU]) rfl ?_
    refine a_lload_n dX7_costOf_41 rfl rfl ?_
    refine a_l2f dX7_costOf_42 ?_
    refine a_ldcf dX7_costOf_43 (w_1018) ?_
    show AW l G mX7_costOf (d + 1) 4 24 Q 45 [vR a0, vI x1, vJ (costM M x1 y1), vU] [vF 1148846080, vF (al2f (costM M x1 y1))] 1 6 H1
    obtain ⟨q45_0, h⟩ := h
    refine a_fdiv dX7_costOf_45 q45_0 ?_
    exact a_fret dX7_costOf_46 rfl (Nat.le_of_ble_eq_true rfl) (Nat.le_of_ble_eq_true rfl) h
  · replace h := h.2 c15
    refine a_fconst dX7_costOf_18 ?_
    exact a_fret dX7_costOf_19 rfl (Nat.le_of_ble_eq_true rfl) (Nat.le_of_ble_eq_true rfl) h


theorem dX7_slack_0 : decode cX7_slack 0 = .ok (.aload_n 0, 1) := by decide +kernel
theorem dX7_slack_1 : decode cX7_slack 1 = .ok (.iload_n 1, 1) := by decide +kernel
theorem dX7_slack_2 : decode cX7_slack 2 = .ok (.invokevirtual 99, 3) := by decide +kernel
theorem dX7_slack_5 : decode cX7_slack 5 = .ok (.aload_n 0, 1) := by decide +kernel
theorem dX7_slack_6 : decode cX7_slack 6 = .ok (.getfield 26, 3) := by decide +kernel
theorem dX7_slack_9 : decode cX7_slack 9 = .ok (.getfield 170, 3) := by decide +kernel
theorem dX7_slack_12 : decode cX7_slack 12 = .ok (.iload_n 1, 1) := by decide +kernel
theorem dX7_slack_13 : decode cX7_slack 13 = .ok (.iaload, 1) := by decide +kernel
theorem dX7_slack_14 : decode cX7_slack 14 = .ok (.ifCond .eq 5, 3) := by decide +kernel
theorem dX7_slack_17 : decode cX7_slack 17 = .ok (.iconst (-1), 1) := by decide +kernel
theorem dX7_slack_18 : decode cX7_slack 18 = .ok (.ireturn, 1) := by decide +kernel
theorem dX7_slack_19 : decode cX7_slack 19 = .ok (.aload_n 0, 1) := by decide +kernel
theorem dX7_slack_20 : decode cX7_slack 20 = .ok (.getfield 19, 3) := by decide +kernel
theorem dX7_slack_23 : decode cX7_slack 23 = .ok (.aload_n 0, 1) := by decide +kernel
theorem dX7_slack_24 : decode cX7_slack 24 = .ok (.getfield 26, 3) := by decide +kernel
theorem dX7_slack_27 : decode cX7_slack 27 = .ok (.aload_n 0, 1) := by decide +kernel
theorem dX7_slack_28 : decode cX7_slack 28 = .ok (.getfield 26, 3) := by decide +kernel
theorem dX7_slack_31 : decode cX7_slack 31 = .ok (.getfield 157, 3) := by decide +kernel
theorem dX7_slack_34 : decode cX7_slack 34 = .ok (.iload_n 1, 1) := by decide +kernel
theorem dX7_slack_35 : decode cX7_slack 35 = .ok (.iaload, 1) := by decide +kernel
theorem dX7_slack_36 : decode cX7_slack 36 = .ok (.invokevirtual 189, 3) := by decide +kernel
theorem dX7_slack_39 : decode cX7_slack 39 = .ok (.aload_n 0, 1) := by decide +kernel
theorem dX7_slack_40 : decode cX7_slack 40 = .ok (.getfield 26, 3) := by decide +kernel
theorem dX7_slack_43 : decode cX7_slack 43 = .ok (.iload_n 1, 1) := by decide +kernel
theorem dX7_slack_44 : decode cX7_slack 44 = .ok (.invokevirtual 242, 3) := by decide +kernel
theorem dX7_slack_47 : decode cX7_slack 47 = .ok (.ireturn, 1) := by decide +kernel
set_option maxRecDepth 20000 in
theorem s_X7_slack_0 {l : Launch} {G : GT} {d : Nat} {Q : AV → AH → Prop} {H : AH} {a0 x1 : Int} (hG : GX l G) {M : Row} (hS : SK H (a0 + 20) M) (h_r0 : Lay LRun H a0) (h : (¬ (fl M x1) → Q (vT 1) H) ∧ (fl M x1 → (0 ≤ x1 ∧ x1 < M 6) ∧ ((ofM M x1 7) = 0 → CL l G mX2_refresh d 0 0 [vR (a0 + 3), vR (a0 + 20), vI (ofM M x1 6)] H (fun r9 H1 => Lay LRun H1 a0 ∧ SK H1 (a0 + 20) M ∧ r9 = vV ∧ CL l G mX6_roomBehind d 0 0 [vR (a0 + 20), vI x1] H1 (fun r9 H2 => Lay LRun H2 a0 ∧ SK H2 (a0 + 20) M ∧ ∃ y2 : Int, r9 = vI y2 ∧ Q (vI y2) H2))) ∧ (¬ (ofM M x1 7) = 0 → Q (vI (-1)) H))) (hd : 6 ≤ d := by omega) : AW l G mX7_slack (d + 1) 4 24 Q 0 [vR a0, vI x1] [] 0 0 H := by
  refine a_aload_n dX7_slack_0 rfl rfl ?_
  refine a_iload_n dX7_slack_1 rfl rfl ?_
  refine a_callV dX7_slack_2 cw_X7_slack_2 (as := [vI x1]) rfl rfl (kRun_0 h_r0) (Nat.le_refl _) (Nat.le_of_ble_eq_true rfl) (nocov rfl) (Nat.le_of_ble_eq_true rfl) (Nat.le_of_ble_eq_true rfl) (CL.mono (k_checkFlight hG h_r0 hS) (fun r9 H9 h9 => ?_))
  obtain ⟨h8, h9⟩ := h9
  rw [h8]
  rcases h9 with ⟨c2, e9⟩ | ⟨c2, e9⟩
  · rw [e9]; exact h.1 c2
  rw [e9]
  replace h := h.2 c2
  show AW l G mX7_slack (d + 1) 4 24 Q 5 [vR a0, vI x1] [] 1 6 H
  refine a_aload_n dX7_slack_5 rfl rfl ?_
  refine a_getR dX7_slack_6 fw_RX7_26 rfl rfl (kRun_0 h_r0) (rRun_0_2 h_r0) ?_
  refine a_getR dX7_slack_9 fw_RX7_170 rfl rfl (kRun_20 h_r0) (rRun_20_4 h_r0) ?_
  refine a_iload_n dX7_slack_12 rfl rfl ?_
  obtain ⟨q13_0, h⟩ := h
  refine b_ialdV dX7_slack_13 (kRun_35 h_r0) (nRun_35 h_r0) (sk_lt hS q13_0) (sko (by omega) (sk_15 hS q13_0)) ?_
  refine a_if_eq dX7_slack_14 (tgt := 19) rfl (fun c14 => ?_) (fun c14 => ?_)
  · replace h := h.1 c14
    refine a_aload_n dX7_slack_19 rfl rfl ?_
    refine a_getR dX7_slack_20 fw_RX7_19 rfl rfl (kRun_0 h_r0) (rRun_0_1 h_r0) ?_
    refine a_aload_n dX7_slack_23 rfl rfl ?_
    refine a_getR dX7_slack_24 fw_RX7_26 rfl rfl (kRun_0 h_r0) (rRun_0_2 h_r0) ?_
    refine a_aload_n dX7_slack_27 rfl rfl ?_
    refine a_getR dX7_slack_28 fw_RX7_26 rfl rfl (kRun_0 h_r0) (rRun_0_2 h_r0) ?_
    refine a_getR dX7_slack_31 fw_RX7_157 rfl rfl (kRun_20 h_r0) (rRun_20_3 h_r0) ?_
    refine a_iload_n dX7_slack_34 rfl rfl ?_
    refine b_ialdV dX7_slack_35 (kRun_34 h_r0) (nRun_34 h_r0) (sk_lt hS q13_0) (sko (by omega) (sk_14 hS q13_0)) ?_
    refine a_callV dX7_slack_36 cw_X7_slack_36 (as := [vR (a0 + 20), vI (ofM M x1 6)]) rfl rfl (kRun_3 h_r0) (Nat.le_refl _) (Nat.le_of_ble_eq_true rfl) (nocov rfl) (Nat.le_of_ble_eq_true rfl) (Nat.le_of_ble_eq_true rfl) (CL.mono h (fun r9 H1 h => ?_))
    obtain ⟨h_r0_1, hSr0_20_1, e9, h⟩ := h
    rw [e9]
    show AW l G mX7_slack (d + 1) 4 24 Q 39 [vR a0, vI x1] [] 1 6 H1
    refine a_aload_n dX7_slack_39 rfl rfl ?_
    refine a_getR dX7_slack_40 fw_RX7_26 rfl rfl (kRun_0 h_r0_1) (rRun_0_2 h_r0_1) ?_
    refine a_iload_n dX7_slack_43 rfl rfl ?_
    refine a_callV dX7_slack_44 cw_X7_slack_44 (as := [vI x1]) rfl rfl (kRun_20 h_r0_1) (Nat.le_refl _) (Nat.le_of_ble_eq_true rfl) (nocov rfl) (Nat.le_of_ble_eq_true rfl) (Nat.le_of_ble_eq_true rfl) (CL.mono h (fun r9 H2 h => ?_))
    obtain ⟨h_r0_2, hSr0_20_2, y2, e9, h⟩ := h
    rw [e9]
    show AW l G mX7_slack (d + 1) 4 24 Q 47 [vR a0, vI x1] [vI y2] 1 6 H2
    exact a_iret dX7_slack_47 rfl (Nat.le_of_ble_eq_true rfl) (Nat.le_of_ble_eq_true rfl) h
  · replace h := h.2 c14
    refine a_iconst dX7_slack_17 ⟨by decide, by decide⟩ ?_
    exact a_iret dX7_slack_18 rfl (Nat.le_of_ble_eq_true rfl) (Nat.le_of_ble_eq_true rfl) h


theorem dX7_binding_0 : decode cX7_binding 0 = .ok (.aload_n 0, 1) := by decide +kernel
theorem dX7_binding_1 : decode cX7_binding 1 = .ok (.iload_n 1, 1) := by decide +kernel
theorem dX7_binding_2 : decode cX7_binding 2 = .ok (.invokevirtual 99, 3) := by decide +kernel
theorem dX7_binding_5 : decode cX7_binding 5 = .ok (.aload_n 0, 1) := by decide +kernel
theorem dX7_binding_6 : decode cX7_binding 6 = .ok (.getfield 26, 3) := by decide +kernel
theorem dX7_binding_9 : decode cX7_binding 9 = .ok (.getfield 170, 3) := by decide +kernel
theorem dX7_binding_12 : decode cX7_binding 12 = .ok (.iload_n 1, 1) := by decide +kernel
theorem dX7_binding_13 : decode cX7_binding 13 = .ok (.iaload, 1) := by decide +kernel
theorem dX7_binding_14 : decode cX7_binding 14 = .ok (.ifCond .eq 5, 3) := by decide +kernel
theorem dX7_binding_17 : decode cX7_binding 17 = .ok (.iconst (-1), 1) := by decide +kernel
theorem dX7_binding_18 : decode cX7_binding 18 = .ok (.ireturn, 1) := by decide +kernel
theorem dX7_binding_19 : decode cX7_binding 19 = .ok (.aload_n 0, 1) := by decide +kernel
theorem dX7_binding_20 : decode cX7_binding 20 = .ok (.getfield 19, 3) := by decide +kernel
theorem dX7_binding_23 : decode cX7_binding 23 = .ok (.aload_n 0, 1) := by decide +kernel
theorem dX7_binding_24 : decode cX7_binding 24 = .ok (.getfield 26, 3) := by decide +kernel
theorem dX7_binding_27 : decode cX7_binding 27 = .ok (.aload_n 0, 1) := by decide +kernel
theorem dX7_binding_28 : decode cX7_binding 28 = .ok (.getfield 26, 3) := by decide +kernel
theorem dX7_binding_31 : decode cX7_binding 31 = .ok (.getfield 157, 3) := by decide +kernel
theorem dX7_binding_34 : decode cX7_binding 34 = .ok (.iload_n 1, 1) := by decide +kernel
theorem dX7_binding_35 : decode cX7_binding 35 = .ok (.iaload, 1) := by decide +kernel
theorem dX7_binding_36 : decode cX7_binding 36 = .ok (.invokevirtual 189, 3) := by decide +kernel
theorem dX7_binding_39 : decode cX7_binding 39 = .ok (.aload_n 0, 1) := by decide +kernel
theorem dX7_binding_40 : decode cX7_binding 40 = .ok (.getfield 26, 3) := by decide +kernel
theorem dX7_binding_43 : decode cX7_binding 43 = .ok (.iload_n 1, 1) := by decide +kernel
theorem dX7_binding_44 : decode cX7_binding 44 = .ok (.invokevirtual 245, 3) := by decide +kernel
theorem dX7_binding_47 : decode cX7_binding 47 = .ok (.ireturn, 1) := by decide +kernel
set_option maxRecDepth 20000 in
theorem s_X7_binding_0 {l : Launch} {G : GT} {d : Nat} {Q : AV → AH → Prop} {H : AH} {a0 x1 : Int} (hG : GX l G) {M : Row} (hS : SK H (a0 + 20) M) (h_r0 : Lay LRun H a0) (h : (¬ (fl M x1) → Q (vT 1) H) ∧ (fl M x1 → (0 ≤ x1 ∧ x1 < M 6) ∧ ((ofM M x1 7) = 0 → CL l G mX2_refresh d 0 0 [vR (a0 + 3), vR (a0 + 20), vI (ofM M x1 6)] H (fun r9 H1 => Lay LRun H1 a0 ∧ SK H1 (a0 + 20) M ∧ r9 = vV ∧ CL l G mX6_bindingOf d 0 0 [vR (a0 + 20), vI x1] H1 (fun r9 H2 => Lay LRun H2 a0 ∧ SK H2 (a0 + 20) M ∧ ∃ y2 : Int, r9 = vI y2 ∧ Q (vI y2) H2))) ∧ (¬ (ofM M x1 7) = 0 → Q (vI (-1)) H))) (hd : 6 ≤ d := by omega) : AW l G mX7_binding (d + 1) 4 24 Q 0 [vR a0, vI x1] [] 0 0 H := by
  refine a_aload_n dX7_binding_0 rfl rfl ?_
  refine a_iload_n dX7_binding_1 rfl rfl ?_
  refine a_callV dX7_binding_2 cw_X7_binding_2 (as := [vI x1]) rfl rfl (kRun_0 h_r0) (Nat.le_refl _) (Nat.le_of_ble_eq_true rfl) (nocov rfl) (Nat.le_of_ble_eq_true rfl) (Nat.le_of_ble_eq_true rfl) (CL.mono (k_checkFlight hG h_r0 hS) (fun r9 H9 h9 => ?_))
  obtain ⟨h8, h9⟩ := h9
  rw [h8]
  rcases h9 with ⟨c2, e9⟩ | ⟨c2, e9⟩
  · rw [e9]; exact h.1 c2
  rw [e9]
  replace h := h.2 c2
  show AW l G mX7_binding (d + 1) 4 24 Q 5 [vR a0, vI x1] [] 1 6 H
  refine a_aload_n dX7_binding_5 rfl rfl ?_
  refine a_getR dX7_binding_6 fw_RX7_26 rfl rfl (kRun_0 h_r0) (rRun_0_2 h_r0) ?_
  refine a_getR dX7_binding_9 fw_RX7_170 rfl rfl (kRun_20 h_r0) (rRun_20_4 h_r0) ?_
  refine a_iload_n dX7_binding_12 rfl rfl ?_
  obtain ⟨q13_0, h⟩ := h
  refine b_ialdV dX7_binding_13 (kRun_35 h_r0) (nRun_35 h_r0) (sk_lt hS q13_0) (sko (by omega) (sk_15 hS q13_0)) ?_
  refine a_if_eq dX7_binding_14 (tgt := 19) rfl (fun c14 => ?_) (fun c14 => ?_)
  · replace h := h.1 c14
    refine a_aload_n dX7_binding_19 rfl rfl ?_
    refine a_getR dX7_binding_20 fw_RX7_19 rfl rfl (kRun_0 h_r0) (rRun_0_1 h_r0) ?_
    refine a_aload_n dX7_binding_23 rfl rfl ?_
    refine a_getR dX7_binding_24 fw_RX7_26 rfl rfl (kRun_0 h_r0) (rRun_0_2 h_r0) ?_
    refine a_aload_n dX7_binding_27 rfl rfl ?_
    refine a_getR dX7_binding_28 fw_RX7_26 rfl rfl (kRun_0 h_r0) (rRun_0_2 h_r0) ?_
    refine a_getR dX7_binding_31 fw_RX7_157 rfl rfl (kRun_20 h_r0) (rRun_20_3 h_r0) ?_
    refine a_iload_n dX7_binding_34 rfl rfl ?_
    refine b_ialdV dX7_binding_35 (kRun_34 h_r0) (nRun_34 h_r0) (sk_lt hS q13_0) (sko (by omega) (sk_14 hS q13_0)) ?_
    refine a_callV dX7_binding_36 cw_X7_binding_36 (as := [vR (a0 + 20), vI (ofM M x1 6)]) rfl rfl (kRun_3 h_r0) (Nat.le_refl _) (Nat.le_of_ble_eq_true rfl) (nocov rfl) (Nat.le_of_ble_eq_true rfl) (Nat.le_of_ble_eq_true rfl) (CL.mono h (fun r9 H1 h => ?_))
    obtain ⟨h_r0_1, hSr0_20_1, e9, h⟩ := h
    rw [e9]
    show AW l G mX7_binding (d + 1) 4 24 Q 39 [vR a0, vI x1] [] 1 6 H1
    refine a_aload_n dX7_binding_39 rfl rfl ?_
    refine a_getR dX7_binding_40 fw_RX7_26 rfl rfl (kRun_0 h_r0_1) (rRun_0_2 h_r0_1) ?_
    refine a_iload_n dX7_binding_43 rfl rfl ?_
    refine a_callV dX7_binding_44 cw_X7_binding_44 (as := [vI x1]) rfl rfl (kRun_20 h_r0_1) (Nat.le_refl _) (Nat.le_of_ble_eq_true rfl) (nocov rfl) (Nat.le_of_ble_eq_true rfl) (Nat.le_of_ble_eq_true rfl) (CL.mono h (fun r9 H2 h => ?_))
    obtain ⟨h_r0_2, hSr0_20_2, y2, e9, h⟩ := h
    rw [e9]
    show AW l G mX7_binding (d + 1) 4 24 Q 47 [vR a0, vI x1] [vI y2] 1 6 H2
    exact a_iret dX7_binding_47 rfl (Nat.le_of_ble_eq_true rfl) (Nat.le_of_ble_eq_true rfl) h
  · replace h := h.2 c14
    refine a_iconst dX7_binding_17 ⟨by decide, by decide⟩ ?_
    exact a_iret dX7_binding_18 rfl (Nat.le_of_ble_eq_true rfl) (Nat.le_of_ble_eq_true rfl) h


theorem dX7_planCost_0 : decode cX7_planCost 0 = .ok (.aload_n 0, 1) := by decide +kernel
theorem dX7_planCost_1 : decode cX7_planCost 1 = .ok (.iload_n 1, 1) := by decide +kernel
theorem dX7_planCost_2 : decode cX7_planCost 2 = .ok (.invokevirtual 160, 3) := by decide +kernel
theorem dX7_planCost_5 : decode cX7_planCost 5 = .ok (.aload_n 0, 1) := by decide +kernel
theorem dX7_planCost_6 : decode cX7_planCost 6 = .ok (.getfield 19, 3) := by decide +kernel
theorem dX7_planCost_9 : decode cX7_planCost 9 = .ok (.aload_n 0, 1) := by decide +kernel
theorem dX7_planCost_10 : decode cX7_planCost 10 = .ok (.getfield 26, 3) := by decide +kernel
theorem dX7_planCost_13 : decode cX7_planCost 13 = .ok (.iload_n 1, 1) := by decide +kernel
theorem dX7_planCost_14 : decode cX7_planCost 14 = .ok (.invokevirtual 189, 3) := by decide +kernel
theorem dX7_planCost_17 : decode cX7_planCost 17 = .ok (.aload_n 0, 1) := by decide +kernel
theorem dX7_planCost_18 : decode cX7_planCost 18 = .ok (.getfield 26, 3) := by decide +kernel
theorem dX7_planCost_21 : decode cX7_planCost 21 = .ok (.aload_n 0, 1) := by decide +kernel
theorem dX7_planCost_22 : decode cX7_planCost 22 = .ok (.getfield 26, 3) := by decide +kernel
theorem dX7_planCost_25 : decode cX7_planCost 25 = .ok (.getfield 202, 3) := by decide +kernel
theorem dX7_planCost_28 : decode cX7_planCost 28 = .ok (.iload_n 1, 1) := by decide +kernel
theorem dX7_planCost_29 : decode cX7_planCost 29 = .ok (.bipush 24, 2) := by decide +kernel
theorem dX7_planCost_31 : decode cX7_planCost 31 = .ok (.imul, 1) := by decide +kernel
theorem dX7_planCost_32 : decode cX7_planCost 32 = .ok (.aload_n 0, 1) := by decide +kernel
theorem dX7_planCost_33 : decode cX7_planCost 33 = .ok (.getfield 26, 3) := by decide +kernel
theorem dX7_planCost_36 : decode cX7_planCost 36 = .ok (.getfield 199, 3) := by decide +kernel
theorem dX7_planCost_39 : decode cX7_planCost 39 = .ok (.iload_n 1, 1) := by decide +kernel
theorem dX7_planCost_40 : decode cX7_planCost 40 = .ok (.iaload, 1) := by decide +kernel
theorem dX7_planCost_41 : decode cX7_planCost 41 = .ok (.aload_n 0, 1) := by decide +kernel
theorem dX7_planCost_42 : decode cX7_planCost 42 = .ok (.getfield 26, 3) := by decide +kernel
theorem dX7_planCost_45 : decode cX7_planCost 45 = .ok (.getfield 214, 3) := by decide +kernel
theorem dX7_planCost_48 : decode cX7_planCost 48 = .ok (.invokevirtual 217, 3) := by decide +kernel
theorem dX7_planCost_51 : decode cX7_planCost 51 = .ok (.lreturn, 1) := by decide +kernel
set_option maxRecDepth 20000 in
theorem s_X7_planCost_0 {l : Launch} {G : GT} {d : Nat} {Q : AV → AH → Prop} {H : AH} {a0 x1 : Int} (hG : GX l G) {M : Row} (hS : SK H (a0 + 20) M) (h_r0 : Lay LRun H a0) (h : (¬ (rl M x1) → Q (vT 1) H) ∧ (rl M x1 → CL l G mX2_refresh d 0 0 [vR (a0 + 3), vR (a0 + 20), vI x1] H (fun r9 H1 => Lay LRun H1 a0 ∧ SK H1 (a0 + 20) M ∧ r9 = vV ∧ (-2147483648 ≤ x1 * 24 ∧ x1 * 24 ≤ 2147483647) ∧ (0 ≤ x1 ∧ x1 < 3) ∧ CL l G mX6_costAlong d 0 0 [vR (a0 + 20), vR (a0 + 39), vI (x1 * 24), vI (hg H1 (a0 + 40) x1), vR (a0 + 36)] H1 (fun r9 H2 => Lay LRun H2 a0 ∧ SK H2 (a0 + 20) M ∧ ∃ y2 : Int, r9 = vJ y2 ∧ Q (vJ y2) H2)))) (hd : 6 ≤ d := by omega) : AW l G mX7_planCost (d + 1) 4 24 Q 0 [vR a0, vI x1] [] 0 0 H := by
  refine a_aload_n dX7_planCost_0 rfl rfl ?_
  refine a_iload_n dX7_planCost_1 rfl rfl ?_
  refine a_callV dX7_planCost_2 cw_X7_planCost_2 (as := [vI x1]) rfl rfl (kRun_0 h_r0) (Nat.le_refl _) (Nat.le_of_ble_eq_true rfl) (nocov rfl) (Nat.le_of_ble_eq_true rfl) (Nat.le_of_ble_eq_true rfl) (CL.mono (k_checkRunway hG h_r0 hS) (fun r9 H9 h9 => ?_))
  obtain ⟨h8, h9⟩ := h9
  rw [h8]
  rcases h9 with ⟨c2, e9⟩ | ⟨c2, e9⟩
  · rw [e9]; exact h.1 c2
  rw [e9]
  replace h := h.2 c2
  show AW l G mX7_planCost (d + 1) 4 24 Q 5 [vR a0, vI x1] [] 1 6 H
  refine a_aload_n dX7_planCost_5 rfl rfl ?_
  refine a_getR dX7_planCost_6 fw_RX7_19 rfl rfl (kRun_0 h_r0) (rRun_0_1 h_r0) ?_
  refine a_aload_n dX7_planCost_9 rfl rfl ?_
  refine a_getR dX7_planCost_10 fw_RX7_26 rfl rfl (kRun_0 h_r0) (rRun_0_2 h_r0) ?_
  refine a_iload_n dX7_planCost_13 rfl rfl ?_
  refine a_callV dX7_planCost_14 cw_X7_planCost_14 (as := [vR (a0 + 20), vI x1]) rfl rfl (kRun_3 h_r0) (Nat.le_refl _) (Nat.le_of_ble_eq_true rfl) (nocov rfl) (Nat.le_of_ble_eq_true rfl) (Nat.le_of_ble_eq_true rfl) (CL.mono h (fun r9 H1 h => ?_))
  obtain ⟨h_r0_1, hSr0_20_1, e9, h⟩ := h
  rw [e9]
  show AW l G mX7_planCost (d + 1) 4 24 Q 17 [vR a0, vI x1] [] 1 6 H1
  refine a_aload_n dX7_planCost_17 rfl rfl ?_
  refine a_getR dX7_planCost_18 fw_RX7_26 rfl rfl (kRun_0 h_r0_1) (rRun_0_2 h_r0_1) ?_
  refine a_aload_n dX7_planCost_21 rfl rfl ?_
  refine a_getR dX7_planCost_22 fw_RX7_26 rfl rfl (kRun_0 h_r0_1) (rRun_0_2 h_r0_1) ?_
  refine a_getR dX7_planCost_25 fw_RX7_202 rfl rfl (kRun_20 h_r0_1) (rRun_20_9 h_r0_1) ?_
  refine a_iload_n dX7_planCost_28 rfl rfl ?_
  refine a_bipush dX7_planCost_29 (by decide) ?_
  obtain ⟨q31_0, h⟩ := h
  refine a_imul dX7_planCost_31 q31_0 ?_
  refine a_aload_n dX7_planCost_32 rfl rfl ?_
  refine a_getR dX7_planCost_33 fw_RX7_26 rfl rfl (kRun_0 h_r0_1) (rRun_0_2 h_r0_1) ?_
  refine a_getR dX7_planCost_36 fw_RX7_199 rfl rfl (kRun_20 h_r0_1) (rRun_20_10 h_r0_1) ?_
  refine a_iload_n dX7_planCost_39 rfl rfl ?_
  obtain ⟨q40_0, h⟩ := h
  refine b_iald dX7_planCost_40 (kRun_40 h_r0_1) (nRun_40 h_r0_1) q40_0 ?_
  refine a_aload_n dX7_planCost_41 rfl rfl ?_
  refine a_getR dX7_planCost_42 fw_RX7_26 rfl rfl (kRun_0 h_r0_1) (rRun_0_2 h_r0_1) ?_
  refine a_getR dX7_planCost_45 fw_RX7_214 rfl rfl (kRun_20 h_r0_1) (rRun_20_5 h_r0_1) ?_
  refine a_callV dX7_planCost_48 cw_X7_planCost_48 (as := [vR (a0 + 39), vI (x1 * 24), vI (hg H1 (a0 + 40) x1), vR (a0 + 36)]) rfl rfl (kRun_20 h_r0_1) (Nat.le_refl _) (Nat.le_of_ble_eq_true rfl) (nocov rfl) (Nat.le_of_ble_eq_true rfl) (Nat.le_of_ble_eq_true rfl) (CL.mono h (fun r9 H2 h => ?_))
  obtain ⟨h_r0_2, hSr0_20_2, y2, e9, h⟩ := h
  rw [e9]
  show AW l G mX7_planCost (d + 1) 4 24 Q 51 [vR a0, vI x1] [vJ y2] 1 6 H2
  exact a_lret dX7_planCost_51 rfl (Nat.le_of_ble_eq_true rfl) (Nat.le_of_ble_eq_true rfl) h


theorem dX7_firstComeCost_0 : decode cX7_firstComeCost 0 = .ok (.aload_n 0, 1) := by decide +kernel
theorem dX7_firstComeCost_1 : decode cX7_firstComeCost 1 = .ok (.iload_n 1, 1) := by decide +kernel
theorem dX7_firstComeCost_2 : decode cX7_firstComeCost 2 = .ok (.invokevirtual 160, 3) := by decide +kernel
theorem dX7_firstComeCost_5 : decode cX7_firstComeCost 5 = .ok (.aload_n 0, 1) := by decide +kernel
theorem dX7_firstComeCost_6 : decode cX7_firstComeCost 6 = .ok (.getfield 19, 3) := by decide +kernel
theorem dX7_firstComeCost_9 : decode cX7_firstComeCost 9 = .ok (.aload_n 0, 1) := by decide +kernel
theorem dX7_firstComeCost_10 : decode cX7_firstComeCost 10 = .ok (.getfield 26, 3) := by decide +kernel
theorem dX7_firstComeCost_13 : decode cX7_firstComeCost 13 = .ok (.iload_n 1, 1) := by decide +kernel
theorem dX7_firstComeCost_14 : decode cX7_firstComeCost 14 = .ok (.invokevirtual 221, 3) := by decide +kernel
theorem dX7_firstComeCost_17 : decode cX7_firstComeCost 17 = .ok (.lreturn, 1) := by decide +kernel
set_option maxRecDepth 20000 in
theorem s_X7_firstComeCost_0 {l : Launch} {G : GT} {d : Nat} {Q : AV → AH → Prop} {H : AH} {a0 x1 : Int} (hG : GX l G) {M : Row} (hS : SK H (a0 + 20) M) (h_r0 : Lay LRun H a0) (h : (¬ (rl M x1) → Q (vT 1) H) ∧ (rl M x1 → CL l G mX2_costInLine d 0 0 [vR (a0 + 3), vR (a0 + 20), vI x1] H (fun r9 H1 => Lay LRun H1 a0 ∧ SK H1 (a0 + 20) M ∧ ∃ y1 : Int, r9 = vJ y1 ∧ Q (vJ y1) H1))) (hd : 6 ≤ d := by omega) : AW l G mX7_firstComeCost (d + 1) 4 24 Q 0 [vR a0, vI x1] [] 0 0 H := by
  refine a_aload_n dX7_firstComeCost_0 rfl rfl ?_
  refine a_iload_n dX7_firstComeCost_1 rfl rfl ?_
  refine a_callV dX7_firstComeCost_2 cw_X7_firstComeCost_2 (as := [vI x1]) rfl rfl (kRun_0 h_r0) (Nat.le_refl _) (Nat.le_of_ble_eq_true rfl) (nocov rfl) (Nat.le_of_ble_eq_true rfl) (Nat.le_of_ble_eq_true rfl) (CL.mono (k_checkRunway hG h_r0 hS) (fun r9 H9 h9 => ?_))
  obtain ⟨h8, h9⟩ := h9
  rw [h8]
  rcases h9 with ⟨c2, e9⟩ | ⟨c2, e9⟩
  · rw [e9]; exact h.1 c2
  rw [e9]
  replace h := h.2 c2
  show AW l G mX7_firstComeCost (d + 1) 4 24 Q 5 [vR a0, vI x1] [] 1 6 H
  refine a_aload_n dX7_firstComeCost_5 rfl rfl ?_
  refine a_getR dX7_firstComeCost_6 fw_RX7_19 rfl rfl (kRun_0 h_r0) (rRun_0_1 h_r0) ?_
  refine a_aload_n dX7_firstComeCost_9 rfl rfl ?_
  refine a_getR dX7_firstComeCost_10 fw_RX7_26 rfl rfl (kRun_0 h_r0) (rRun_0_2 h_r0) ?_
  refine a_iload_n dX7_firstComeCost_13 rfl rfl ?_
  refine a_callV dX7_firstComeCost_14 cw_X7_firstComeCost_14 (as := [vR (a0 + 20), vI x1]) rfl rfl (kRun_3 h_r0) (Nat.le_refl _) (Nat.le_of_ble_eq_true rfl) (nocov rfl) (Nat.le_of_ble_eq_true rfl) (Nat.le_of_ble_eq_true rfl) (CL.mono h (fun r9 H1 h => ?_))
  obtain ⟨h_r0_1, hSr0_20_1, y1, e9, h⟩ := h
  rw [e9]
  show AW l G mX7_firstComeCost (d + 1) 4 24 Q 17 [vR a0, vI x1] [vJ y1] 1 6 H1
  exact a_lret dX7_firstComeCost_17 rfl (Nat.le_of_ble_eq_true rfl) (Nat.le_of_ble_eq_true rfl) h


theorem dX7_allowedSequences_0 : decode cX7_allowedSequences 0 = .ok (.aload_n 0, 1) := by decide +kernel
theorem dX7_allowedSequences_1 : decode cX7_allowedSequences 1 = .ok (.iload_n 1, 1) := by decide +kernel
theorem dX7_allowedSequences_2 : decode cX7_allowedSequences 2 = .ok (.invokevirtual 160, 3) := by decide +kernel
theorem dX7_allowedSequences_5 : decode cX7_allowedSequences 5 = .ok (.aload_n 0, 1) := by decide +kernel
theorem dX7_allowedSequences_6 : decode cX7_allowedSequences 6 = .ok (.getfield 19, 3) := by decide +kernel
theorem dX7_allowedSequences_9 : decode cX7_allowedSequences 9 = .ok (.aload_n 0, 1) := by decide +kernel
theorem dX7_allowedSequences_10 : decode cX7_allowedSequences 10 = .ok (.getfield 26, 3) := by decide +kernel
theorem dX7_allowedSequences_13 : decode cX7_allowedSequences 13 = .ok (.iload_n 1, 1) := by decide +kernel
theorem dX7_allowedSequences_14 : decode cX7_allowedSequences 14 = .ok (.invokevirtual 236, 3) := by decide +kernel
theorem dX7_allowedSequences_17 : decode cX7_allowedSequences 17 = .ok (.ireturn, 1) := by decide +kernel
set_option maxRecDepth 20000 in
theorem s_X7_allowedSequences_0 {l : Launch} {G : GT} {d : Nat} {Q : AV → AH → Prop} {H : AH} {a0 x1 : Int} (hG : GX l G) {M : Row} (hS : SK H (a0 + 20) M) (h_r0 : Lay LRun H a0) (h : (¬ (rl M x1) → Q (vT 1) H) ∧ (rl M x1 → CL l G mX2_countAllowed d 0 0 [vR (a0 + 3), vR (a0 + 20), vI x1] H (fun r9 H1 => Lay LRun H1 a0 ∧ SK H1 (a0 + 20) M ∧ ∃ y1 : Int, r9 = vI y1 ∧ Q (vI y1) H1))) (hd : 6 ≤ d := by omega) : AW l G mX7_allowedSequences (d + 1) 4 24 Q 0 [vR a0, vI x1] [] 0 0 H := by
  refine a_aload_n dX7_allowedSequences_0 rfl rfl ?_
  refine a_iload_n dX7_allowedSequences_1 rfl rfl ?_
  refine a_callV dX7_allowedSequences_2 cw_X7_allowedSequences_2 (as := [vI x1]) rfl rfl (kRun_0 h_r0) (Nat.le_refl _) (Nat.le_of_ble_eq_true rfl) (nocov rfl) (Nat.le_of_ble_eq_true rfl) (Nat.le_of_ble_eq_true rfl) (CL.mono (k_checkRunway hG h_r0 hS) (fun r9 H9 h9 => ?_))
  obtain ⟨h8, h9⟩ := h9
  rw [h8]
  rcases h9 with ⟨c2, e9⟩ | ⟨c2, e9⟩
  · rw [e9]; exact h.1 c2
  rw [e9]
  replace h := h.2 c2
  show AW l G mX7_allowedSequences (d + 1) 4 24 Q 5 [vR a0, vI x1] [] 1 6 H
  refine a_aload_n dX7_allowedSequences_5 rfl rfl ?_
  refine a_getR dX7_allowedSequences_6 fw_RX7_19 rfl rfl (kRun_0 h_r0) (rRun_0_1 h_r0) ?_
  refine a_aload_n dX7_allowedSequences_9 rfl rfl ?_
  refine a_getR dX7_allowedSequences_10 fw_RX7_26 rfl rfl (kRun_0 h_r0) (rRun_0_2 h_r0) ?_
  refine a_iload_n dX7_allowedSequences_13 rfl rfl ?_
  refine a_callV dX7_allowedSequences_14 cw_X7_allowedSequences_14 (as := [vR (a0 + 20), vI x1]) rfl rfl (kRun_3 h_r0) (Nat.le_refl _) (Nat.le_of_ble_eq_true rfl) (nocov rfl) (Nat.le_of_ble_eq_true rfl) (Nat.le_of_ble_eq_true rfl) (CL.mono h (fun r9 H1 h => ?_))
  obtain ⟨h_r0_1, hSr0_20_1, y1, e9, h⟩ := h
  rw [e9]
  show AW l G mX7_allowedSequences (d + 1) 4 24 Q 17 [vR a0, vI x1] [vI y1] 1 6 H1
  exact a_iret dX7_allowedSequences_17 rfl (Nat.le_of_ble_eq_true rfl) (Nat.le_of_ble_eq_true rfl) h


theorem dX7_equalSequences_0 : decode cX7_equalSequences 0 = .ok (.aload_n 0, 1) := by decide +kernel
theorem dX7_equalSequences_1 : decode cX7_equalSequences 1 = .ok (.iload_n 1, 1) := by decide +kernel
theorem dX7_equalSequences_2 : decode cX7_equalSequences 2 = .ok (.invokevirtual 160, 3) := by decide +kernel
theorem dX7_equalSequences_5 : decode cX7_equalSequences 5 = .ok (.aload_n 0, 1) := by decide +kernel
theorem dX7_equalSequences_6 : decode cX7_equalSequences 6 = .ok (.getfield 19, 3) := by decide +kernel
theorem dX7_equalSequences_9 : decode cX7_equalSequences 9 = .ok (.aload_n 0, 1) := by decide +kernel
theorem dX7_equalSequences_10 : decode cX7_equalSequences 10 = .ok (.getfield 26, 3) := by decide +kernel
theorem dX7_equalSequences_13 : decode cX7_equalSequences 13 = .ok (.iload_n 1, 1) := by decide +kernel
theorem dX7_equalSequences_14 : decode cX7_equalSequences 14 = .ok (.invokevirtual 239, 3) := by decide +kernel
theorem dX7_equalSequences_17 : decode cX7_equalSequences 17 = .ok (.ireturn, 1) := by decide +kernel
set_option maxRecDepth 20000 in
theorem s_X7_equalSequences_0 {l : Launch} {G : GT} {d : Nat} {Q : AV → AH → Prop} {H : AH} {a0 x1 : Int} (hG : GX l G) {M : Row} (hS : SK H (a0 + 20) M) (h_r0 : Lay LRun H a0) (h : (¬ (rl M x1) → Q (vT 1) H) ∧ (rl M x1 → CL l G mX2_countEqual d 0 0 [vR (a0 + 3), vR (a0 + 20), vI x1] H (fun r9 H1 => Lay LRun H1 a0 ∧ SK H1 (a0 + 20) M ∧ ∃ y1 : Int, r9 = vI y1 ∧ Q (vI y1) H1))) (hd : 6 ≤ d := by omega) : AW l G mX7_equalSequences (d + 1) 4 24 Q 0 [vR a0, vI x1] [] 0 0 H := by
  refine a_aload_n dX7_equalSequences_0 rfl rfl ?_
  refine a_iload_n dX7_equalSequences_1 rfl rfl ?_
  refine a_callV dX7_equalSequences_2 cw_X7_equalSequences_2 (as := [vI x1]) rfl rfl (kRun_0 h_r0) (Nat.le_refl _) (Nat.le_of_ble_eq_true rfl) (nocov rfl) (Nat.le_of_ble_eq_true rfl) (Nat.le_of_ble_eq_true rfl) (CL.mono (k_checkRunway hG h_r0 hS) (fun r9 H9 h9 => ?_))
  obtain ⟨h8, h9⟩ := h9
  rw [h8]
  rcases h9 with ⟨c2, e9⟩ | ⟨c2, e9⟩
  · rw [e9]; exact h.1 c2
  rw [e9]
  replace h := h.2 c2
  show AW l G mX7_equalSequences (d + 1) 4 24 Q 5 [vR a0, vI x1] [] 1 6 H
  refine a_aload_n dX7_equalSequences_5 rfl rfl ?_
  refine a_getR dX7_equalSequences_6 fw_RX7_19 rfl rfl (kRun_0 h_r0) (rRun_0_1 h_r0) ?_
  refine a_aload_n dX7_equalSequences_9 rfl rfl ?_
  refine a_getR dX7_equalSequences_10 fw_RX7_26 rfl rfl (kRun_0 h_r0) (rRun_0_2 h_r0) ?_
  refine a_iload_n dX7_equalSequences_13 rfl rfl ?_
  refine a_callV dX7_equalSequences_14 cw_X7_equalSequences_14 (as := [vR (a0 + 20), vI x1]) rfl rfl (kRun_3 h_r0) (Nat.le_refl _) (Nat.le_of_ble_eq_true rfl) (nocov rfl) (Nat.le_of_ble_eq_true rfl) (Nat.le_of_ble_eq_true rfl) (CL.mono h (fun r9 H1 h => ?_))
  obtain ⟨h_r0_1, hSr0_20_1, y1, e9, h⟩ := h
  rw [e9]
  show AW l G mX7_equalSequences (d + 1) 4 24 Q 17 [vR a0, vI x1] [vI y1] 1 6 H1
  exact a_iret dX7_equalSequences_17 rfl (Nat.le_of_ble_eq_true rfl) (Nat.le_of_ble_eq_true rfl) h


theorem dX7_lastTime_0 : decode cX7_lastTime 0 = .ok (.aload_n 0, 1) := by decide +kernel
theorem dX7_lastTime_1 : decode cX7_lastTime 1 = .ok (.iload_n 1, 1) := by decide +kernel
theorem dX7_lastTime_2 : decode cX7_lastTime 2 = .ok (.invokevirtual 160, 3) := by decide +kernel
theorem dX7_lastTime_5 : decode cX7_lastTime 5 = .ok (.aload_n 0, 1) := by decide +kernel
theorem dX7_lastTime_6 : decode cX7_lastTime 6 = .ok (.getfield 19, 3) := by decide +kernel
theorem dX7_lastTime_9 : decode cX7_lastTime 9 = .ok (.aload_n 0, 1) := by decide +kernel
theorem dX7_lastTime_10 : decode cX7_lastTime 10 = .ok (.getfield 26, 3) := by decide +kernel
theorem dX7_lastTime_13 : decode cX7_lastTime 13 = .ok (.iload_n 1, 1) := by decide +kernel
theorem dX7_lastTime_14 : decode cX7_lastTime 14 = .ok (.invokevirtual 189, 3) := by decide +kernel
theorem dX7_lastTime_17 : decode cX7_lastTime 17 = .ok (.aload_n 0, 1) := by decide +kernel
theorem dX7_lastTime_18 : decode cX7_lastTime 18 = .ok (.getfield 26, 3) := by decide +kernel
theorem dX7_lastTime_21 : decode cX7_lastTime 21 = .ok (.getfield 199, 3) := by decide +kernel
theorem dX7_lastTime_24 : decode cX7_lastTime 24 = .ok (.iload_n 1, 1) := by decide +kernel
theorem dX7_lastTime_25 : decode cX7_lastTime 25 = .ok (.iaload, 1) := by decide +kernel
theorem dX7_lastTime_26 : decode cX7_lastTime 26 = .ok (.istore_n 2, 1) := by decide +kernel
theorem dX7_lastTime_27 : decode cX7_lastTime 27 = .ok (.iload_n 2, 1) := by decide +kernel
theorem dX7_lastTime_28 : decode cX7_lastTime 28 = .ok (.ifCond .gt 5, 3) := by decide +kernel
theorem dX7_lastTime_31 : decode cX7_lastTime 31 = .ok (.iconst (-1), 1) := by decide +kernel
theorem dX7_lastTime_32 : decode cX7_lastTime 32 = .ok (.ireturn, 1) := by decide +kernel
theorem dX7_lastTime_33 : decode cX7_lastTime 33 = .ok (.aload_n 0, 1) := by decide +kernel
theorem dX7_lastTime_34 : decode cX7_lastTime 34 = .ok (.getfield 26, 3) := by decide +kernel
theorem dX7_lastTime_37 : decode cX7_lastTime 37 = .ok (.getfield 214, 3) := by decide +kernel
theorem dX7_lastTime_40 : decode cX7_lastTime 40 = .ok (.aload_n 0, 1) := by decide +kernel
theorem dX7_lastTime_41 : decode cX7_lastTime 41 = .ok (.getfield 26, 3) := by decide +kernel
theorem dX7_lastTime_44 : decode cX7_lastTime 44 = .ok (.getfield 202, 3) := by decide +kernel
theorem dX7_lastTime_47 : decode cX7_lastTime 47 = .ok (.iload_n 1, 1) := by decide +kernel
theorem dX7_lastTime_48 : decode cX7_lastTime 48 = .ok (.bipush 24, 2) := by decide +kernel
theorem dX7_lastTime_50 : decode cX7_lastTime 50 = .ok (.imul, 1) := by decide +kernel
theorem dX7_lastTime_51 : decode cX7_lastTime 51 = .ok (.iload_n 2, 1) := by decide +kernel
theorem dX7_lastTime_52 : decode cX7_lastTime 52 = .ok (.iadd, 1) := by decide +kernel
theorem dX7_lastTime_53 : decode cX7_lastTime 53 = .ok (.iconst 1, 1) := by decide +kernel
theorem dX7_lastTime_54 : decode cX7_lastTime 54 = .ok (.isub, 1) := by decide +kernel
theorem dX7_lastTime_55 : decode cX7_lastTime 55 = .ok (.iaload, 1) := by decide +kernel
theorem dX7_lastTime_56 : decode cX7_lastTime 56 = .ok (.iaload, 1) := by decide +kernel
theorem dX7_lastTime_57 : decode cX7_lastTime 57 = .ok (.ireturn, 1) := by decide +kernel
set_option maxRecDepth 20000 in
theorem s_X7_lastTime_0 {l : Launch} {G : GT} {d : Nat} {Q : AV → AH → Prop} {H : AH} {a0 x1 : Int} (hG : GX l G) {M : Row} (hS : SK H (a0 + 20) M) (h_r0 : Lay LRun H a0) (h : (¬ (rl M x1) → Q (vT 1) H) ∧ (rl M x1 → CL l G mX2_refresh d 0 0 [vR (a0 + 3), vR (a0 + 20), vI x1] H (fun r9 H1 => Lay LRun H1 a0 ∧ SK H1 (a0 + 20) M ∧ r9 = vV ∧ (0 ≤ x1 ∧ x1 < 3) ∧ (0 < (hg H1 (a0 + 40) x1) → (-2147483648 ≤ x1 * 24 ∧ x1 * 24 ≤ 2147483647) ∧ (-2147483648 ≤ (x1 * 24) + (hg H1 (a0 + 40) x1) ∧ (x1 * 24) + (hg H1 (a0 + 40) x1) ≤ 2147483647) ∧ (-2147483648 ≤ ((x1 * 24) + (hg H1 (a0 + 40) x1)) - 1 ∧ ((x1 * 24) + (hg H1 (a0 + 40) x1)) - 1 ≤ 2147483647) ∧ (0 ≤ (((x1 * 24) + (hg H1 (a0 + 40) x1)) - 1) ∧ (((x1 * 24) + (hg H1 (a0 + 40) x1)) - 1) < 72) ∧ (0 ≤ (hg H1 (a0 + 39) (((x1 * 24) + (hg H1 (a0 + 40) x1)) - 1)) ∧ (hg H1 (a0 + 39) (((x1 * 24) + (hg H1 (a0 + 40) x1)) - 1)) < 24) ∧ Q (vI (hg H1 (a0 + 36) (hg H1 (a0 + 39) (((x1 * 24) + (hg H1 (a0 + 40) x1)) - 1)))) H1) ∧ ((hg H1 (a0 + 40) x1) ≤ 0 → Q (vI (-1)) H1)))) (hd : 6 ≤ d := by omega) : AW l G mX7_lastTime (d + 1) 4 24 Q 0 [vR a0, vI x1, vU] [] 0 0 H := by
  refine a_aload_n dX7_lastTime_0 rfl rfl ?_
  refine a_iload_n dX7_lastTime_1 rfl rfl ?_
  refine a_callV dX7_lastTime_2 cw_X7_lastTime_2 (as := [vI x1]) rfl rfl (kRun_0 h_r0) (Nat.le_refl _) (Nat.le_of_ble_eq_true rfl) (nocov rfl) (Nat.le_of_ble_eq_true rfl) (Nat.le_of_ble_eq_true rfl) (CL.mono (k_checkRunway hG h_r0 hS) (fun r9 H9 h9 => ?_))
  obtain ⟨h8, h9⟩ := h9
  rw [h8]
  rcases h9 with ⟨c2, e9⟩ | ⟨c2, e9⟩
  · rw [e9]; exact h.1 c2
  rw [e9]
  replace h := h.2 c2
  show AW l G mX7_lastTime (d + 1) 4 24 Q 5 [vR a0, vI x1, vU] [] 1 6 H
  refine a_aload_n dX7_lastTime_5 rfl rfl ?_
  refine a_getR dX7_lastTime_6 fw_RX7_19 rfl rfl (kRun_0 h_r0) (rRun_0_1 h_r0) ?_
  refine a_aload_n dX7_lastTime_9 rfl rfl ?_
  refine a_getR dX7_lastTime_10 fw_RX7_26 rfl rfl (kRun_0 h_r0) (rRun_0_2 h_r0) ?_
  refine a_iload_n dX7_lastTime_13 rfl rfl ?_
  refine a_callV dX7_lastTime_14 cw_X7_lastTime_14 (as := [vR (a0 + 20), vI x1]) rfl rfl (kRun_3 h_r0) (Nat.le_refl _) (Nat.le_of_ble_eq_true rfl) (nocov rfl) (Nat.le_of_ble_eq_true rfl) (Nat.le_of_ble_eq_true rfl) (CL.mono h (fun r9 H1 h => ?_))
  obtain ⟨h_r0_1, hSr0_20_1, e9, h⟩ := h
  rw [e9]
  show AW l G mX7_lastTime (d + 1) 4 24 Q 17 [vR a0, vI x1, vU] [] 1 6 H1
  refine a_aload_n dX7_lastTime_17 rfl rfl ?_
  refine a_getR dX7_lastTime_18 fw_RX7_26 rfl rfl (kRun_0 h_r0_1) (rRun_0_2 h_r0_1) ?_
  refine a_getR dX7_lastTime_21 fw_RX7_199 rfl rfl (kRun_20 h_r0_1) (rRun_20_10 h_r0_1) ?_
  refine a_iload_n dX7_lastTime_24 rfl rfl ?_
  obtain ⟨q25_0, h⟩ := h
  refine b_iald dX7_lastTime_25 (kRun_40 h_r0_1) (nRun_40 h_r0_1) q25_0 ?_
  refine a_istore_n dX7_lastTime_26 rfl (Nat.le_of_ble_eq_true rfl) (ls' := [vR a0, vI x1, vI (hg H1 (a0 + 40) x1)]) rfl ?_
  refine a_iload_n dX7_lastTime_27 rfl rfl ?_
  refine a_if_gt dX7_lastTime_28 (tgt := 33) rfl (fun c28 => ?_) (fun c28 => ?_)
  · replace h := h.1 c28
    refine a_aload_n dX7_lastTime_33 rfl rfl ?_
    refine a_getR dX7_lastTime_34 fw_RX7_26 rfl rfl (kRun_0 h_r0_1) (rRun_0_2 h_r0_1) ?_
    refine a_getR dX7_lastTime_37 fw_RX7_214 rfl rfl (kRun_20 h_r0_1) (rRun_20_5 h_r0_1) ?_
    refine a_aload_n dX7_lastTime_40 rfl rfl ?_
    refine a_getR dX7_lastTime_41 fw_RX7_26 rfl rfl (kRun_0 h_r0_1) (rRun_0_2 h_r0_1) ?_
    refine a_getR dX7_lastTime_44 fw_RX7_202 rfl rfl (kRun_20 h_r0_1) (rRun_20_9 h_r0_1) ?_
    refine a_iload_n dX7_lastTime_47 rfl rfl ?_
    refine a_bipush dX7_lastTime_48 (by decide) ?_
    obtain ⟨q50_0, h⟩ := h
    refine a_imul dX7_lastTime_50 q50_0 ?_
    refine a_iload_n dX7_lastTime_51 rfl rfl ?_
    obtain ⟨q52_0, h⟩ := h
    refine a_iadd dX7_lastTime_52 q52_0 ?_
    refine a_iconst dX7_lastTime_53 ⟨by decide, by decide⟩ ?_
    obtain ⟨q54_0, h⟩ := h
    refine a_isub dX7_lastTime_54 q54_0 ?_
    obtain ⟨q55_0, h⟩ := h
    refine b_iald dX7_lastTime_55 (kRun_39 h_r0_1) (nRun_39 h_r0_1) q55_0 ?_
    obtain ⟨q56_0, h⟩ := h
    refine b_iald dX7_lastTime_56 (kRun_36 h_r0_1) (nRun_36 h_r0_1) q56_0 ?_
    exact a_iret dX7_lastTime_57 rfl (Nat.le_of_ble_eq_true rfl) (Nat.le_of_ble_eq_true rfl) h
  · replace h := h.2 c28
    refine a_iconst dX7_lastTime_31 ⟨by decide, by decide⟩ ?_
    exact a_iret dX7_lastTime_32 rfl (Nat.le_of_ble_eq_true rfl) (Nat.le_of_ble_eq_true rfl) h


theorem dX7_plannedAt_0 : decode cX7_plannedAt 0 = .ok (.aload_n 0, 1) := by decide +kernel
theorem dX7_plannedAt_1 : decode cX7_plannedAt 1 = .ok (.iload_n 1, 1) := by decide +kernel
theorem dX7_plannedAt_2 : decode cX7_plannedAt 2 = .ok (.invokevirtual 160, 3) := by decide +kernel
theorem dX7_plannedAt_5 : decode cX7_plannedAt 5 = .ok (.aload_n 0, 1) := by decide +kernel
theorem dX7_plannedAt_6 : decode cX7_plannedAt 6 = .ok (.getfield 19, 3) := by decide +kernel
theorem dX7_plannedAt_9 : decode cX7_plannedAt 9 = .ok (.aload_n 0, 1) := by decide +kernel
theorem dX7_plannedAt_10 : decode cX7_plannedAt 10 = .ok (.getfield 26, 3) := by decide +kernel
theorem dX7_plannedAt_13 : decode cX7_plannedAt 13 = .ok (.iload_n 1, 1) := by decide +kernel
theorem dX7_plannedAt_14 : decode cX7_plannedAt 14 = .ok (.invokevirtual 189, 3) := by decide +kernel
theorem dX7_plannedAt_17 : decode cX7_plannedAt 17 = .ok (.iload_n 2, 1) := by decide +kernel
theorem dX7_plannedAt_18 : decode cX7_plannedAt 18 = .ok (.ifCond .lt 16, 3) := by decide +kernel
theorem dX7_plannedAt_21 : decode cX7_plannedAt 21 = .ok (.iload_n 2, 1) := by decide +kernel
theorem dX7_plannedAt_22 : decode cX7_plannedAt 22 = .ok (.aload_n 0, 1) := by decide +kernel
theorem dX7_plannedAt_23 : decode cX7_plannedAt 23 = .ok (.getfield 26, 3) := by decide +kernel
theorem dX7_plannedAt_26 : decode cX7_plannedAt 26 = .ok (.getfield 199, 3) := by decide +kernel
theorem dX7_plannedAt_29 : decode cX7_plannedAt 29 = .ok (.iload_n 1, 1) := by decide +kernel
theorem dX7_plannedAt_30 : decode cX7_plannedAt 30 = .ok (.iaload, 1) := by decide +kernel
theorem dX7_plannedAt_31 : decode cX7_plannedAt 31 = .ok (.if_icmp .lt 5, 3) := by decide +kernel
theorem dX7_plannedAt_34 : decode cX7_plannedAt 34 = .ok (.iconst (-1), 1) := by decide +kernel
theorem dX7_plannedAt_35 : decode cX7_plannedAt 35 = .ok (.ireturn, 1) := by decide +kernel
theorem dX7_plannedAt_36 : decode cX7_plannedAt 36 = .ok (.aload_n 0, 1) := by decide +kernel
theorem dX7_plannedAt_37 : decode cX7_plannedAt 37 = .ok (.getfield 26, 3) := by decide +kernel
theorem dX7_plannedAt_40 : decode cX7_plannedAt 40 = .ok (.getfield 202, 3) := by decide +kernel
theorem dX7_plannedAt_43 : decode cX7_plannedAt 43 = .ok (.iload_n 1, 1) := by decide +kernel
theorem dX7_plannedAt_44 : decode cX7_plannedAt 44 = .ok (.bipush 24, 2) := by decide +kernel
theorem dX7_plannedAt_46 : decode cX7_plannedAt 46 = .ok (.imul, 1) := by decide +kernel
theorem dX7_plannedAt_47 : decode cX7_plannedAt 47 = .ok (.iload_n 2, 1) := by decide +kernel
theorem dX7_plannedAt_48 : decode cX7_plannedAt 48 = .ok (.iadd, 1) := by decide +kernel
theorem dX7_plannedAt_49 : decode cX7_plannedAt 49 = .ok (.iaload, 1) := by decide +kernel
theorem dX7_plannedAt_50 : decode cX7_plannedAt 50 = .ok (.ireturn, 1) := by decide +kernel
set_option maxRecDepth 20000 in
theorem s_X7_plannedAt_0 {l : Launch} {G : GT} {d : Nat} {Q : AV → AH → Prop} {H : AH} {a0 x1 x2 : Int} (hG : GX l G) {M : Row} (hS : SK H (a0 + 20) M) (h_r0 : Lay LRun H a0) (h : (¬ (rl M x1) → Q (vT 1) H) ∧ (rl M x1 → CL l G mX2_refresh d 0 0 [vR (a0 + 3), vR (a0 + 20), vI x1] H (fun r9 H1 => Lay LRun H1 a0 ∧ SK H1 (a0 + 20) M ∧ r9 = vV ∧ (x2 < 0 → Q (vI (-1)) H1) ∧ (0 ≤ x2 → (0 ≤ x1 ∧ x1 < 3) ∧ (x2 < (hg H1 (a0 + 40) x1) → (-2147483648 ≤ x1 * 24 ∧ x1 * 24 ≤ 2147483647) ∧ (-2147483648 ≤ (x1 * 24) + x2 ∧ (x1 * 24) + x2 ≤ 2147483647) ∧ (0 ≤ ((x1 * 24) + x2) ∧ ((x1 * 24) + x2) < 72) ∧ Q (vI (hg H1 (a0 + 39) ((x1 * 24) + x2))) H1) ∧ ((hg H1 (a0 + 40) x1) ≤ x2 → Q (vI (-1)) H1))))) (hd : 6 ≤ d := by omega) : AW l G mX7_plannedAt (d + 1) 4 24 Q 0 [vR a0, vI x1, vI x2] [] 0 0 H := by
  refine a_aload_n dX7_plannedAt_0 rfl rfl ?_
  refine a_iload_n dX7_plannedAt_1 rfl rfl ?_
  refine a_callV dX7_plannedAt_2 cw_X7_plannedAt_2 (as := [vI x1]) rfl rfl (kRun_0 h_r0) (Nat.le_refl _) (Nat.le_of_ble_eq_true rfl) (nocov rfl) (Nat.le_of_ble_eq_true rfl) (Nat.le_of_ble_eq_true rfl) (CL.mono (k_checkRunway hG h_r0 hS) (fun r9 H9 h9 => ?_))
  obtain ⟨h8, h9⟩ := h9
  rw [h8]
  rcases h9 with ⟨c2, e9⟩ | ⟨c2, e9⟩
  · rw [e9]; exact h.1 c2
  rw [e9]
  replace h := h.2 c2
  show AW l G mX7_plannedAt (d + 1) 4 24 Q 5 [vR a0, vI x1, vI x2] [] 1 6 H
  refine a_aload_n dX7_plannedAt_5 rfl rfl ?_
  refine a_getR dX7_plannedAt_6 fw_RX7_19 rfl rfl (kRun_0 h_r0) (rRun_0_1 h_r0) ?_
  refine a_aload_n dX7_plannedAt_9 rfl rfl ?_
  refine a_getR dX7_plannedAt_10 fw_RX7_26 rfl rfl (kRun_0 h_r0) (rRun_0_2 h_r0) ?_
  refine a_iload_n dX7_plannedAt_13 rfl rfl ?_
  refine a_callV dX7_plannedAt_14 cw_X7_plannedAt_14 (as := [vR (a0 + 20), vI x1]) rfl rfl (kRun_3 h_r0) (Nat.le_refl _) (Nat.le_of_ble_eq_true rfl) (nocov rfl) (Nat.le_of_ble_eq_true rfl) (Nat.le_of_ble_eq_true rfl) (CL.mono h (fun r9 H1 h => ?_))
  obtain ⟨h_r0_1, hSr0_20_1, e9, h⟩ := h
  rw [e9]
  show AW l G mX7_plannedAt (d + 1) 4 24 Q 17 [vR a0, vI x1, vI x2] [] 1 6 H1
  refine a_iload_n dX7_plannedAt_17 rfl rfl ?_
  refine a_if_lt dX7_plannedAt_18 (tgt := 34) rfl (fun c18 => ?_) (fun c18 => ?_)
  · replace h := h.1 c18
    refine a_iconst dX7_plannedAt_34 ⟨by decide, by decide⟩ ?_
    exact a_iret dX7_plannedAt_35 rfl (Nat.le_of_ble_eq_true rfl) (Nat.le_of_ble_eq_true rfl) h
  · replace h := h.2 c18
    refine a_iload_n dX7_plannedAt_21 rfl rfl ?_
    refine a_aload_n dX7_plannedAt_22 rfl rfl ?_
    refine a_getR dX7_plannedAt_23 fw_RX7_26 rfl rfl (kRun_0 h_r0_1) (rRun_0_2 h_r0_1) ?_
    refine a_getR dX7_plannedAt_26 fw_RX7_199 rfl rfl (kRun_20 h_r0_1) (rRun_20_10 h_r0_1) ?_
    refine a_iload_n dX7_plannedAt_29 rfl rfl ?_
    obtain ⟨q30_0, h⟩ := h
    refine b_iald dX7_plannedAt_30 (kRun_40 h_r0_1) (nRun_40 h_r0_1) q30_0 ?_
    refine a_icmp_lt dX7_plannedAt_31 (tgt := 36) rfl (fun c31 => ?_) (fun c31 => ?_)
    · replace h := h.1 c31
      refine a_aload_n dX7_plannedAt_36 rfl rfl ?_
      refine a_getR dX7_plannedAt_37 fw_RX7_26 rfl rfl (kRun_0 h_r0_1) (rRun_0_2 h_r0_1) ?_
      refine a_getR dX7_plannedAt_40 fw_RX7_202 rfl rfl (kRun_20 h_r0_1) (rRun_20_9 h_r0_1) ?_
      refine a_iload_n dX7_plannedAt_43 rfl rfl ?_
      refine a_bipush dX7_plannedAt_44 (by decide) ?_
      obtain ⟨q46_0, h⟩ := h
      refine a_imul dX7_plannedAt_46 q46_0 ?_
      refine a_iload_n dX7_plannedAt_47 rfl rfl ?_
      obtain ⟨q48_0, h⟩ := h
      refine a_iadd dX7_plannedAt_48 q48_0 ?_
      obtain ⟨q49_0, h⟩ := h
      refine b_iald dX7_plannedAt_49 (kRun_39 h_r0_1) (nRun_39 h_r0_1) q49_0 ?_
      exact a_iret dX7_plannedAt_50 rfl (Nat.le_of_ble_eq_true rfl) (Nat.le_of_ble_eq_true rfl) h
    · replace h := h.2 c31
      refine a_iconst dX7_plannedAt_34 ⟨by decide, by decide⟩ ?_
      exact a_iret dX7_plannedAt_35 rfl (Nat.le_of_ble_eq_true rfl) (Nat.le_of_ble_eq_true rfl) h


theorem dX7_totalCost_0 : decode cX7_totalCost 0 = .ok (.aload_n 0, 1) := by decide +kernel
theorem dX7_totalCost_1 : decode cX7_totalCost 1 = .ok (.getfield 19, 3) := by decide +kernel
theorem dX7_totalCost_4 : decode cX7_totalCost 4 = .ok (.aload_n 0, 1) := by decide +kernel
theorem dX7_totalCost_5 : decode cX7_totalCost 5 = .ok (.getfield 26, 3) := by decide +kernel
theorem dX7_totalCost_8 : decode cX7_totalCost 8 = .ok (.invokevirtual 210, 3) := by decide +kernel
theorem dX7_totalCost_11 : decode cX7_totalCost 11 = .ok (.lreturn, 1) := by decide +kernel
set_option maxRecDepth 20000 in
theorem s_X7_totalCost_0 {l : Launch} {G : GT} {d : Nat} {Q : AV → AH → Prop} {H : AH} {a0 : Int} {M : Row} (hS : SK H (a0 + 20) M) (h_r0 : Lay LRun H a0) (h : CL l G mX2_wholeCost d 0 0 [vR (a0 + 3), vR (a0 + 20)] H (fun r9 H1 => Lay LRun H1 a0 ∧ SK H1 (a0 + 20) M ∧ ∃ y1 : Int, r9 = vJ y1 ∧ Q (vJ y1) H1)) : AW l G mX7_totalCost (d + 1) 0 0 Q 0 [vR a0] [] 0 0 H := by
  refine a_aload_n dX7_totalCost_0 rfl rfl ?_
  refine a_getR dX7_totalCost_1 fw_RX7_19 rfl rfl (kRun_0 h_r0) (rRun_0_1 h_r0) ?_
  refine a_aload_n dX7_totalCost_4 rfl rfl ?_
  refine a_getR dX7_totalCost_5 fw_RX7_26 rfl rfl (kRun_0 h_r0) (rRun_0_2 h_r0) ?_
  refine a_callV dX7_totalCost_8 cw_X7_totalCost_8 (as := [vR (a0 + 20)]) rfl rfl (kRun_3 h_r0) (Nat.le_refl _) (Nat.le_of_ble_eq_true rfl) (nocov rfl) (Nat.le_of_ble_eq_true rfl) (Nat.le_of_ble_eq_true rfl) (CL.mono h (fun r9 H1 h => ?_))
  obtain ⟨h_r0_1, hSr0_20_1, y1, e9, h⟩ := h
  rw [e9]
  show AW l G mX7_totalCost (d + 1) 0 0 Q 11 [vR a0] [vJ y1] 0 0 H1
  exact a_lret dX7_totalCost_11 rfl (Nat.le_of_ble_eq_true rfl) (Nat.le_of_ble_eq_true rfl) h


theorem dX7_meanDelay_0 : decode cX7_meanDelay 0 = .ok (.aload_n 0, 1) := by decide +kernel
theorem dX7_meanDelay_1 : decode cX7_meanDelay 1 = .ok (.getfield 19, 3) := by decide +kernel
theorem dX7_meanDelay_4 : decode cX7_meanDelay 4 = .ok (.aload_n 0, 1) := by decide +kernel
theorem dX7_meanDelay_5 : decode cX7_meanDelay 5 = .ok (.getfield 26, 3) := by decide +kernel
theorem dX7_meanDelay_8 : decode cX7_meanDelay 8 = .ok (.invokevirtual 225, 3) := by decide +kernel
theorem dX7_meanDelay_11 : decode cX7_meanDelay 11 = .ok (.aload_n 0, 1) := by decide +kernel
theorem dX7_meanDelay_12 : decode cX7_meanDelay 12 = .ok (.getfield 26, 3) := by decide +kernel
theorem dX7_meanDelay_15 : decode cX7_meanDelay 15 = .ok (.invokevirtual 228, 3) := by decide +kernel
theorem dX7_meanDelay_18 : decode cX7_meanDelay 18 = .ok (.freturn, 1) := by decide +kernel
set_option maxRecDepth 20000 in
theorem s_X7_meanDelay_0 {l : Launch} {G : GT} {d : Nat} {Q : AV → AH → Prop} {H : AH} {a0 : Int} {M : Row} (hS : SK H (a0 + 20) M) (h_r0 : Lay LRun H a0) (h : CL l G mX2_refreshAll d 0 0 [vR (a0 + 3), vR (a0 + 20)] H (fun r9 H1 => Lay LRun H1 a0 ∧ SK H1 (a0 + 20) M ∧ r9 = vV ∧ CL l G mX6_averageDelay d 0 0 [vR (a0 + 20)] H1 (fun r9 H2 => Lay LRun H2 a0 ∧ SK H2 (a0 + 20) M ∧ ∃ y2 : Int, r9 = vF y2 ∧ Q (vF y2) H2))) : AW l G mX7_meanDelay (d + 1) 0 0 Q 0 [vR a0] [] 0 0 H := by
  refine a_aload_n dX7_meanDelay_0 rfl rfl ?_
  refine a_getR dX7_meanDelay_1 fw_RX7_19 rfl rfl (kRun_0 h_r0) (rRun_0_1 h_r0) ?_
  refine a_aload_n dX7_meanDelay_4 rfl rfl ?_
  refine a_getR dX7_meanDelay_5 fw_RX7_26 rfl rfl (kRun_0 h_r0) (rRun_0_2 h_r0) ?_
  refine a_callV dX7_meanDelay_8 cw_X7_meanDelay_8 (as := [vR (a0 + 20)]) rfl rfl (kRun_3 h_r0) (Nat.le_refl _) (Nat.le_of_ble_eq_true rfl) (nocov rfl) (Nat.le_of_ble_eq_true rfl) (Nat.le_of_ble_eq_true rfl) (CL.mono h (fun r9 H1 h => ?_))
  obtain ⟨h_r0_1, hSr0_20_1, e9, h⟩ := h
  rw [e9]
  show AW l G mX7_meanDelay (d + 1) 0 0 Q 11 [vR a0] [] 0 0 H1
  refine a_aload_n dX7_meanDelay_11 rfl rfl ?_
  refine a_getR dX7_meanDelay_12 fw_RX7_26 rfl rfl (kRun_0 h_r0_1) (rRun_0_2 h_r0_1) ?_
  refine a_callV dX7_meanDelay_15 cw_X7_meanDelay_15 (as := []) rfl rfl (kRun_20 h_r0_1) (Nat.le_refl _) (Nat.le_of_ble_eq_true rfl) (nocov rfl) (Nat.le_of_ble_eq_true rfl) (Nat.le_of_ble_eq_true rfl) (CL.mono h (fun r9 H2 h => ?_))
  obtain ⟨h_r0_2, hSr0_20_2, y2, e9, h⟩ := h
  rw [e9]
  show AW l G mX7_meanDelay (d + 1) 0 0 Q 18 [vR a0] [vF y2] 0 0 H2
  exact a_fret dX7_meanDelay_18 rfl (Nat.le_of_ble_eq_true rfl) (Nat.le_of_ble_eq_true rfl) h


theorem dX7_lateCount_0 : decode cX7_lateCount 0 = .ok (.aload_n 0, 1) := by decide +kernel
theorem dX7_lateCount_1 : decode cX7_lateCount 1 = .ok (.getfield 19, 3) := by decide +kernel
theorem dX7_lateCount_4 : decode cX7_lateCount 4 = .ok (.aload_n 0, 1) := by decide +kernel
theorem dX7_lateCount_5 : decode cX7_lateCount 5 = .ok (.getfield 26, 3) := by decide +kernel
theorem dX7_lateCount_8 : decode cX7_lateCount 8 = .ok (.invokevirtual 225, 3) := by decide +kernel
theorem dX7_lateCount_11 : decode cX7_lateCount 11 = .ok (.aload_n 0, 1) := by decide +kernel
theorem dX7_lateCount_12 : decode cX7_lateCount 12 = .ok (.getfield 26, 3) := by decide +kernel
theorem dX7_lateCount_15 : decode cX7_lateCount 15 = .ok (.invokevirtual 232, 3) := by decide +kernel
theorem dX7_lateCount_18 : decode cX7_lateCount 18 = .ok (.ireturn, 1) := by decide +kernel
set_option maxRecDepth 20000 in
theorem s_X7_lateCount_0 {l : Launch} {G : GT} {d : Nat} {Q : AV → AH → Prop} {H : AH} {a0 : Int} {M : Row} (hS : SK H (a0 + 20) M) (h_r0 : Lay LRun H a0) (h : CL l G mX2_refreshAll d 0 0 [vR (a0 + 3), vR (a0 + 20)] H (fun r9 H1 => Lay LRun H1 a0 ∧ SK H1 (a0 + 20) M ∧ r9 = vV ∧ CL l G mX6_countLate d 0 0 [vR (a0 + 20)] H1 (fun r9 H2 => Lay LRun H2 a0 ∧ SK H2 (a0 + 20) M ∧ ∃ y2 : Int, r9 = vI y2 ∧ Q (vI y2) H2))) : AW l G mX7_lateCount (d + 1) 0 0 Q 0 [vR a0] [] 0 0 H := by
  refine a_aload_n dX7_lateCount_0 rfl rfl ?_
  refine a_getR dX7_lateCount_1 fw_RX7_19 rfl rfl (kRun_0 h_r0) (rRun_0_1 h_r0) ?_
  refine a_aload_n dX7_lateCount_4 rfl rfl ?_
  refine a_getR dX7_lateCount_5 fw_RX7_26 rfl rfl (kRun_0 h_r0) (rRun_0_2 h_r0) ?_
  refine a_callV dX7_lateCount_8 cw_X7_lateCount_8 (as := [vR (a0 + 20)]) rfl rfl (kRun_3 h_r0) (Nat.le_refl _) (Nat.le_of_ble_eq_true rfl) (nocov rfl) (Nat.le_of_ble_eq_true rfl) (Nat.le_of_ble_eq_true rfl) (CL.mono h (fun r9 H1 h => ?_))
  obtain ⟨h_r0_1, hSr0_20_1, e9, h⟩ := h
  rw [e9]
  show AW l G mX7_lateCount (d + 1) 0 0 Q 11 [vR a0] [] 0 0 H1
  refine a_aload_n dX7_lateCount_11 rfl rfl ?_
  refine a_getR dX7_lateCount_12 fw_RX7_26 rfl rfl (kRun_0 h_r0_1) (rRun_0_2 h_r0_1) ?_
  refine a_callV dX7_lateCount_15 cw_X7_lateCount_15 (as := []) rfl rfl (kRun_20 h_r0_1) (Nat.le_refl _) (Nat.le_of_ble_eq_true rfl) (nocov rfl) (Nat.le_of_ble_eq_true rfl) (Nat.le_of_ble_eq_true rfl) (CL.mono h (fun r9 H2 h => ?_))
  obtain ⟨h_r0_2, hSr0_20_2, y2, e9, h⟩ := h
  rw [e9]
  show AW l G mX7_lateCount (d + 1) 0 0 Q 18 [vR a0] [vI y2] 0 0 H2
  exact a_iret dX7_lateCount_18 rfl (Nat.le_of_ble_eq_true rfl) (Nat.le_of_ble_eq_true rfl) h


theorem dX7_pastNeighbor_0 : decode cX7_pastNeighbor 0 = .ok (.aload_n 0, 1) := by decide +kernel
theorem dX7_pastNeighbor_1 : decode cX7_pastNeighbor 1 = .ok (.getfield 19, 3) := by decide +kernel
theorem dX7_pastNeighbor_4 : decode cX7_pastNeighbor 4 = .ok (.aload_n 0, 1) := by decide +kernel
theorem dX7_pastNeighbor_5 : decode cX7_pastNeighbor 5 = .ok (.getfield 26, 3) := by decide +kernel
theorem dX7_pastNeighbor_8 : decode cX7_pastNeighbor 8 = .ok (.invokevirtual 225, 3) := by decide +kernel
theorem dX7_pastNeighbor_11 : decode cX7_pastNeighbor 11 = .ok (.iconst 0, 1) := by decide +kernel
theorem dX7_pastNeighbor_12 : decode cX7_pastNeighbor 12 = .ok (.istore_n 1, 1) := by decide +kernel
theorem dX7_pastNeighbor_13 : decode cX7_pastNeighbor 13 = .ok (.iconst 0, 1) := by decide +kernel
theorem dX7_pastNeighbor_14 : decode cX7_pastNeighbor 14 = .ok (.istore_n 2, 1) := by decide +kernel
theorem dX7_pastNeighbor_15 : decode cX7_pastNeighbor 15 = .ok (.iload_n 2, 1) := by decide +kernel
theorem dX7_pastNeighbor_16 : decode cX7_pastNeighbor 16 = .ok (.aload_n 0, 1) := by decide +kernel
theorem dX7_pastNeighbor_17 : decode cX7_pastNeighbor 17 = .ok (.getfield 26, 3) := by decide +kernel
theorem dX7_pastNeighbor_20 : decode cX7_pastNeighbor 20 = .ok (.getfield 90, 3) := by decide +kernel
theorem dX7_pastNeighbor_23 : decode cX7_pastNeighbor 23 = .ok (.getfield 94, 3) := by decide +kernel
theorem dX7_pastNeighbor_26 : decode cX7_pastNeighbor 26 = .ok (.if_icmp .ge 20, 3) := by decide +kernel
theorem dX7_pastNeighbor_29 : decode cX7_pastNeighbor 29 = .ok (.iload_n 1, 1) := by decide +kernel
theorem dX7_pastNeighbor_30 : decode cX7_pastNeighbor 30 = .ok (.aload_n 0, 1) := by decide +kernel
theorem dX7_pastNeighbor_31 : decode cX7_pastNeighbor 31 = .ok (.getfield 26, 3) := by decide +kernel
theorem dX7_pastNeighbor_34 : decode cX7_pastNeighbor 34 = .ok (.iload_n 2, 1) := by decide +kernel
theorem dX7_pastNeighbor_35 : decode cX7_pastNeighbor 35 = .ok (.invokevirtual 248, 3) := by decide +kernel
theorem dX7_pastNeighbor_38 : decode cX7_pastNeighbor 38 = .ok (.iadd, 1) := by decide +kernel
theorem dX7_pastNeighbor_39 : decode cX7_pastNeighbor 39 = .ok (.istore_n 1, 1) := by decide +kernel
theorem dX7_pastNeighbor_40 : decode cX7_pastNeighbor 40 = .ok (.iinc 2 1, 3) := by decide +kernel
theorem dX7_pastNeighbor_43 : decode cX7_pastNeighbor 43 = .ok (.goto (-28), 3) := by decide +kernel
theorem dX7_pastNeighbor_46 : decode cX7_pastNeighbor 46 = .ok (.iload_n 1, 1) := by decide +kernel
theorem dX7_pastNeighbor_47 : decode cX7_pastNeighbor 47 = .ok (.ireturn, 1) := by decide +kernel
set_option maxRecDepth 20000 in
theorem s_X7_pastNeighbor_0 {l : Launch} {G : GT} {d : Nat} {Q : AV → AH → Prop} {H : AH} {a0 : Int} {M : Row} (hS : SK H (a0 + 20) M) (h_r0 : Lay LRun H a0) (h : CL l G mX2_refreshAll d 0 0 [vR (a0 + 3), vR (a0 + 20)] H (fun r9 H1 => Lay LRun H1 a0 ∧ SK H1 (a0 + 20) M ∧ r9 = vV ∧ AW l G mX7_pastNeighbor (d + 1) 0 0 Q 15 [vR a0, vI 0, vI 0] [] 0 0 H1)) : AW l G mX7_pastNeighbor (d + 1) 0 0 Q 0 [vR a0, vU, vU] [] 0 0 H := by
  refine a_aload_n dX7_pastNeighbor_0 rfl rfl ?_
  refine a_getR dX7_pastNeighbor_1 fw_RX7_19 rfl rfl (kRun_0 h_r0) (rRun_0_1 h_r0) ?_
  refine a_aload_n dX7_pastNeighbor_4 rfl rfl ?_
  refine a_getR dX7_pastNeighbor_5 fw_RX7_26 rfl rfl (kRun_0 h_r0) (rRun_0_2 h_r0) ?_
  refine a_callV dX7_pastNeighbor_8 cw_X7_pastNeighbor_8 (as := [vR (a0 + 20)]) rfl rfl (kRun_3 h_r0) (Nat.le_refl _) (Nat.le_of_ble_eq_true rfl) (nocov rfl) (Nat.le_of_ble_eq_true rfl) (Nat.le_of_ble_eq_true rfl) (CL.mono h (fun r9 H1 h => ?_))
  obtain ⟨h_r0_1, hSr0_20_1, e9, h⟩ := h
  rw [e9]
  show AW l G mX7_pastNeighbor (d + 1) 0 0 Q 11 [vR a0, vU, vU] [] 0 0 H1
  refine a_iconst dX7_pastNeighbor_11 ⟨by decide, by decide⟩ ?_
  refine a_istore_n dX7_pastNeighbor_12 rfl (Nat.le_of_ble_eq_true rfl) (ls' := [vR a0, vI 0, vU]) rfl ?_
  refine a_iconst dX7_pastNeighbor_13 ⟨by decide, by decide⟩ ?_
  refine a_istore_n dX7_pastNeighbor_14 rfl (Nat.le_of_ble_eq_true rfl) (ls' := [vR a0, vI 0, vI 0]) rfl ?_
  exact h

set_option maxRecDepth 20000 in
theorem s_X7_pastNeighbor_15 {l : Launch} {G : GT} {d : Nat} {Q : AV → AH → Prop} {H : AH} {a0 x1 x2 : Int} {M : Row} (hS : SK H (a0 + 20) M) (h_r0 : Lay LRun H a0) (h : ((M 5) ≤ x2 → Q (vI x1) H) ∧ (x2 < (M 5) → CL l G mX6_heldPastNeighbor d 0 0 [vR (a0 + 20), vI x2] H (fun r9 H1 => Lay LRun H1 a0 ∧ SK H1 (a0 + 20) M ∧ ∃ y1 : Int, r9 = vI y1 ∧ (-2147483648 ≤ x1 + y1 ∧ x1 + y1 ≤ 2147483647) ∧ (-2147483648 ≤ x2 + 1 ∧ x2 + 1 ≤ 2147483647) ∧ AW l G mX7_pastNeighbor (d + 1) 0 0 Q 15 [vR a0, vI (x1 + y1), vI (x2 + 1)] [] 0 0 H1))) : AW l G mX7_pastNeighbor (d + 1) 0 0 Q 15 [vR a0, vI x1, vI x2] [] 0 0 H := by
  refine a_iload_n dX7_pastNeighbor_15 rfl rfl ?_
  refine a_aload_n dX7_pastNeighbor_16 rfl rfl ?_
  refine a_getR dX7_pastNeighbor_17 fw_RX7_26 rfl rfl (kRun_0 h_r0) (rRun_0_2 h_r0) ?_
  refine a_getR dX7_pastNeighbor_20 fw_RX7_90 rfl rfl (kRun_20 h_r0) (rRun_20_0 h_r0) ?_
  refine a_getIV dX7_pastNeighbor_23 fw_RX7_94 rfl rfl (kRun_21 h_r0) (sko (by omega) (sk_1_0 hS)) ?_
  refine a_icmp_ge dX7_pastNeighbor_26 (tgt := 46) rfl (fun c26 => ?_) (fun c26 => ?_)
  · replace h := h.1 c26
    refine a_iload_n dX7_pastNeighbor_46 rfl rfl ?_
    exact a_iret dX7_pastNeighbor_47 rfl (Nat.le_of_ble_eq_true rfl) (Nat.le_of_ble_eq_true rfl) h
  · replace h := h.2 c26
    refine a_iload_n dX7_pastNeighbor_29 rfl rfl ?_
    refine a_aload_n dX7_pastNeighbor_30 rfl rfl ?_
    refine a_getR dX7_pastNeighbor_31 fw_RX7_26 rfl rfl (kRun_0 h_r0) (rRun_0_2 h_r0) ?_
    refine a_iload_n dX7_pastNeighbor_34 rfl rfl ?_
    refine a_callV dX7_pastNeighbor_35 cw_X7_pastNeighbor_35 (as := [vI x2]) rfl rfl (kRun_20 h_r0) (Nat.le_refl _) (Nat.le_of_ble_eq_true rfl) (nocov rfl) (Nat.le_of_ble_eq_true rfl) (Nat.le_of_ble_eq_true rfl) (CL.mono h (fun r9 H1 h => ?_))
    obtain ⟨h_r0_1, hSr0_20_1, y1, e9, h⟩ := h
    rw [e9]
    show AW l G mX7_pastNeighbor (d + 1) 0 0 Q 38 [vR a0, vI x1, vI x2] [vI y1, vI x1] 0 0 H1
    obtain ⟨q38_0, h⟩ := h
    refine a_iadd dX7_pastNeighbor_38 q38_0 ?_
    refine a_istore_n dX7_pastNeighbor_39 rfl (Nat.le_of_ble_eq_true rfl) (ls' := [vR a0, vI (x1 + y1), vI x2]) rfl ?_
    obtain ⟨q40_0, h⟩ := h
    refine a_iinc dX7_pastNeighbor_40 rfl (Nat.le_of_ble_eq_true rfl) (by decide) q40_0 (ls' := [vR a0, vI (x1 + y1), vI (x2 + 1)]) rfl ?_
    refine a_goto dX7_pastNeighbor_43 (tgt := 15) rfl ?_
    exact h


theorem dX7_timeInserted_0 : decode cX7_timeInserted 0 = .ok (.aload_n 0, 1) := by decide +kernel
theorem dX7_timeInserted_1 : decode cX7_timeInserted 1 = .ok (.iload_n 3, 1) := by decide +kernel
theorem dX7_timeInserted_2 : decode cX7_timeInserted 2 = .ok (.invokevirtual 160, 3) := by decide +kernel
theorem dX7_timeInserted_5 : decode cX7_timeInserted 5 = .ok (.iload_n 1, 1) := by decide +kernel
theorem dX7_timeInserted_6 : decode cX7_timeInserted 6 = .ok (.invokestatic 125, 3) := by decide +kernel
theorem dX7_timeInserted_9 : decode cX7_timeInserted 9 = .ok (.iload_n 2, 1) := by decide +kernel
theorem dX7_timeInserted_10 : decode cX7_timeInserted 10 = .ok (.ifCond .lt 9, 3) := by decide +kernel
theorem dX7_timeInserted_13 : decode cX7_timeInserted 13 = .ok (.iload_n 2, 1) := by decide +kernel
theorem dX7_timeInserted_14 : decode cX7_timeInserted 14 = .ok (.ldc 141, 2) := by decide +kernel
theorem dX7_timeInserted_16 : decode cX7_timeInserted 16 = .ok (.if_icmp .le 14, 3) := by decide +kernel
theorem dX7_timeInserted_19 : decode cX7_timeInserted 19 = .ok (.new 44, 3) := by decide +kernel
theorem dX7_timeInserted_22 : decode cX7_timeInserted 22 = .ok (.dup, 1) := by decide +kernel
theorem dX7_timeInserted_23 : decode cX7_timeInserted 23 = .ok (.ldc_w 275, 3) := by decide +kernel
theorem dX7_timeInserted_26 : decode cX7_timeInserted 26 = .ok (.invokespecial 48, 3) := by decide +kernel
theorem dX7_timeInserted_29 : decode cX7_timeInserted 29 = .ok (.athrow, 1) := by decide +kernel
theorem dX7_timeInserted_30 : decode cX7_timeInserted 30 = .ok (.aload_n 0, 1) := by decide +kernel
theorem dX7_timeInserted_31 : decode cX7_timeInserted 31 = .ok (.getfield 19, 3) := by decide +kernel
theorem dX7_timeInserted_34 : decode cX7_timeInserted 34 = .ok (.aload_n 0, 1) := by decide +kernel
theorem dX7_timeInserted_35 : decode cX7_timeInserted 35 = .ok (.getfield 26, 3) := by decide +kernel
theorem dX7_timeInserted_38 : decode cX7_timeInserted 38 = .ok (.iload_n 3, 1) := by decide +kernel
theorem dX7_timeInserted_39 : decode cX7_timeInserted 39 = .ok (.invokevirtual 189, 3) := by decide +kernel
theorem dX7_timeInserted_42 : decode cX7_timeInserted 42 = .ok (.aload_n 0, 1) := by decide +kernel
theorem dX7_timeInserted_43 : decode cX7_timeInserted 43 = .ok (.getfield 26, 3) := by decide +kernel
theorem dX7_timeInserted_46 : decode cX7_timeInserted 46 = .ok (.iload_n 1, 1) := by decide +kernel
theorem dX7_timeInserted_47 : decode cX7_timeInserted 47 = .ok (.iload_n 2, 1) := by decide +kernel
theorem dX7_timeInserted_48 : decode cX7_timeInserted 48 = .ok (.iload_n 3, 1) := by decide +kernel
theorem dX7_timeInserted_49 : decode cX7_timeInserted 49 = .ok (.invokevirtual 277, 3) := by decide +kernel
theorem dX7_timeInserted_52 : decode cX7_timeInserted 52 = .ok (.ireturn, 1) := by decide +kernel
set_option maxRecDepth 20000 in
theorem s_X7_timeInserted_0 {l : Launch} {G : GT} {d : Nat} {Q : AV → AH → Prop} {H : AH} {a0 x1 x2 x3 : Int} (hG : GX l G) {M : Row} (hS : SK H (a0 + 20) M) (h_r0 : Lay LRun H a0) (h : (¬ (rl M x3) → Q (vT 1) H) ∧ (rl M x3 → (¬ (0 ≤ x1 ∧ x1 ≤ 3) → Q (vT 0) H) ∧ (0 ≤ x1 ∧ x1 ≤ 3 → (x2 < 0 → Q (vT 0) H) ∧ (0 ≤ x2 → (x2 ≤ 200000 → CL l G mX2_refresh d 0 0 [vR (a0 + 3), vR (a0 + 20), vI x3] H (fun r9 H1 => Lay LRun H1 a0 ∧ SK H1 (a0 + 20) M ∧ r9 = vV ∧ CL l G mX6_firstGap d 0 0 [vR (a0 + 20), vI x1, vI x2, vI x3] H1 (fun r9 H2 => Lay LRun H2 a0 ∧ SK H2 (a0 + 20) M ∧ ∃ y2 : Int, r9 = vI y2 ∧ Q (vI y2) H2))) ∧ (200000 < x2 → Q (vT 0) H))))) (hd : 6 ≤ d := by omega) : AW l G mX7_timeInserted (d + 1) 4 24 Q 0 [vR a0, vI x1, vI x2, vI x3] [] 0 0 H := by
  refine a_aload_n dX7_timeInserted_0 rfl rfl ?_
  refine a_iload_n dX7_timeInserted_1 rfl rfl ?_
  refine a_callV dX7_timeInserted_2 cw_X7_timeInserted_2 (as := [vI x3]) rfl rfl (kRun_0 h_r0) (Nat.le_refl _) (Nat.le_of_ble_eq_true rfl) (nocov rfl) (Nat.le_of_ble_eq_true rfl) (Nat.le_of_ble_eq_true rfl) (CL.mono (k_checkRunway hG h_r0 hS) (fun r9 H9 h9 => ?_))
  obtain ⟨h8, h9⟩ := h9
  rw [h8]
  rcases h9 with ⟨c2, e9⟩ | ⟨c2, e9⟩
  · rw [e9]; exact h.1 c2
  rw [e9]
  replace h := h.2 c2
  show AW l G mX7_timeInserted (d + 1) 4 24 Q 5 [vR a0, vI x1, vI x2, vI x3] [] 1 6 H
  refine a_iload_n dX7_timeInserted_5 rfl rfl ?_
  refine a_callS dX7_timeInserted_6 cw_X7_timeInserted_6 (as := [vI x1]) rfl rfl (Nat.le_refl _) (Nat.le_of_ble_eq_true rfl) (nocov rfl) (Nat.le_of_ble_eq_true rfl) (Nat.le_of_ble_eq_true rfl) (CL.mono (k_checkClass hG) (fun r9 H9 h9 => ?_))
  obtain ⟨h8, h9⟩ := h9
  rw [h8]
  rcases h9 with ⟨c6, e9⟩ | ⟨c6, e9⟩
  · rw [e9]; exact h.1 c6
  rw [e9]
  replace h := h.2 c6
  show AW l G mX7_timeInserted (d + 1) 4 24 Q 9 [vR a0, vI x1, vI x2, vI x3] [] 2 12 H
  refine a_iload_n dX7_timeInserted_9 rfl rfl ?_
  refine a_if_lt dX7_timeInserted_10 (tgt := 19) rfl (fun c10 => ?_) (fun c10 => ?_)
  · replace h := h.1 c10
    exact a_thrW 0 hG dX7_timeInserted_19 dX7_timeInserted_22 dX7_timeInserted_23 dX7_timeInserted_26 dX7_timeInserted_29 rfl rfl (by unfold exK; decide) (text := "an earliest time is 0 to 200000") (by decide) (Nat.le_of_ble_eq_true rfl) (by omega) (Nat.le_of_ble_eq_true rfl) (Nat.le_of_ble_eq_true rfl) h
  · replace h := h.2 c10
    refine a_iload_n dX7_timeInserted_13 rfl rfl ?_
    refine a_ldc dX7_timeInserted_14 (w_867) ?_
    show AW l G mX7_timeInserted (d + 1) 4 24 Q 16 [vR a0, vI x1, vI x2, vI x3] [vI 200000, vI x2] 2 12 H
    refine a_icmp_le dX7_timeInserted_16 (tgt := 30) rfl (fun c16 => ?_) (fun c16 => ?_)
    · replace h := h.1 c16
      refine a_aload_n dX7_timeInserted_30 rfl rfl ?_
      refine a_getR dX7_timeInserted_31 fw_RX7_19 rfl rfl (kRun_0 h_r0) (rRun_0_1 h_r0) ?_
      refine a_aload_n dX7_timeInserted_34 rfl rfl ?_
      refine a_getR dX7_timeInserted_35 fw_RX7_26 rfl rfl (kRun_0 h_r0) (rRun_0_2 h_r0) ?_
      refine a_iload_n dX7_timeInserted_38 rfl rfl ?_
      refine a_callV dX7_timeInserted_39 cw_X7_timeInserted_39 (as := [vR (a0 + 20), vI x3]) rfl rfl (kRun_3 h_r0) (Nat.le_refl _) (Nat.le_of_ble_eq_true rfl) (nocov rfl) (Nat.le_of_ble_eq_true rfl) (Nat.le_of_ble_eq_true rfl) (CL.mono h (fun r9 H1 h => ?_))
      obtain ⟨h_r0_1, hSr0_20_1, e9, h⟩ := h
      rw [e9]
      show AW l G mX7_timeInserted (d + 1) 4 24 Q 42 [vR a0, vI x1, vI x2, vI x3] [] 2 12 H1
      refine a_aload_n dX7_timeInserted_42 rfl rfl ?_
      refine a_getR dX7_timeInserted_43 fw_RX7_26 rfl rfl (kRun_0 h_r0_1) (rRun_0_2 h_r0_1) ?_
      refine a_iload_n dX7_timeInserted_46 rfl rfl ?_
      refine a_iload_n dX7_timeInserted_47 rfl rfl ?_
      refine a_iload_n dX7_timeInserted_48 rfl rfl ?_
      refine a_callV dX7_timeInserted_49 cw_X7_timeInserted_49 (as := [vI x1, vI x2, vI x3]) rfl rfl (kRun_20 h_r0_1) (Nat.le_refl _) (Nat.le_of_ble_eq_true rfl) (nocov rfl) (Nat.le_of_ble_eq_true rfl) (Nat.le_of_ble_eq_true rfl) (CL.mono h (fun r9 H2 h => ?_))
      obtain ⟨h_r0_2, hSr0_20_2, y2, e9, h⟩ := h
      rw [e9]
      show AW l G mX7_timeInserted (d + 1) 4 24 Q 52 [vR a0, vI x1, vI x2, vI x3] [vI y2] 2 12 H2
      exact a_iret dX7_timeInserted_52 rfl (Nat.le_of_ble_eq_true rfl) (Nat.le_of_ble_eq_true rfl) h
    · replace h := h.2 c16
      exact a_thrW 0 hG dX7_timeInserted_19 dX7_timeInserted_22 dX7_timeInserted_23 dX7_timeInserted_26 dX7_timeInserted_29 rfl rfl (by unfold exK; decide) (text := "an earliest time is 0 to 200000") (by decide) (Nat.le_of_ble_eq_true rfl) (by omega) (Nat.le_of_ble_eq_true rfl) (Nat.le_of_ble_eq_true rfl) h


