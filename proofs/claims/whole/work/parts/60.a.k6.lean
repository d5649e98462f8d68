theorem dX7_checkFlight_0 : decode cX7_checkFlight 0 = .ok (.iload_n 1, 1) := by decide +kernel
theorem dX7_checkFlight_1 : decode cX7_checkFlight 1 = .ok (.ifCond .lt 17, 3) := by decide +kernel
theorem dX7_checkFlight_4 : decode cX7_checkFlight 4 = .ok (.iload_n 1, 1) := by decide +kernel
theorem dX7_checkFlight_5 : decode cX7_checkFlight 5 = .ok (.aload_n 0, 1) := by decide +kernel
theorem dX7_checkFlight_6 : decode cX7_checkFlight 6 = .ok (.getfield 26, 3) := by decide +kernel
theorem dX7_checkFlight_9 : decode cX7_checkFlight 9 = .ok (.getfield 77, 3) := by decide +kernel
theorem dX7_checkFlight_12 : decode cX7_checkFlight 12 = .ok (.getfield 81, 3) := by decide +kernel
theorem dX7_checkFlight_15 : decode cX7_checkFlight 15 = .ok (.if_icmp .lt 14, 3) := by decide +kernel
theorem dX7_checkFlight_18 : decode cX7_checkFlight 18 = .ok (.new 299, 3) := by decide +kernel
theorem dX7_checkFlight_21 : decode cX7_checkFlight 21 = .ok (.dup, 1) := by decide +kernel
theorem dX7_checkFlight_22 : decode cX7_checkFlight 22 = .ok (.ldc_w 301, 3) := by decide +kernel
theorem dX7_checkFlight_25 : decode cX7_checkFlight 25 = .ok (.invokespecial 303, 3) := by decide +kernel
theorem dX7_checkFlight_28 : decode cX7_checkFlight 28 = .ok (.athrow, 1) := by decide +kernel
theorem dX7_checkFlight_29 : decode cX7_checkFlight 29 = .ok (.return_, 1) := by decide +kernel
set_option maxRecDepth 20000 in
theorem s_X7_checkFlight_0 {l : Launch} {G : GT} {d : Nat} {Q : AV → AH → Prop} {H : AH} {a0 x1 : Int} (hG : GX l G) {M : Row} (hS : SK H (a0 + 20) M) (h_r0 : Lay LRun H a0) (h : (x1 < 0 → Q (vT 1) H) ∧ (0 ≤ x1 → (x1 < (M 6) → Q vV H) ∧ ((M 6) ≤ x1 → Q (vT 1) H))) (hd : 6 ≤ d := by omega) : AW l G mX7_checkFlight d 1 6 Q 0 [vR a0, vI x1] [] 0 0 H := by
  refine a_iload_n dX7_checkFlight_0 rfl rfl ?_
  refine a_if_lt dX7_checkFlight_1 (tgt := 18) rfl (fun c1 => ?_) (fun c1 => ?_)
  · replace h := h.1 c1
    exact a_thrW 1 hG dX7_checkFlight_18 dX7_checkFlight_21 dX7_checkFlight_22 dX7_checkFlight_25 dX7_checkFlight_28 rfl rfl (by unfold exK; decide) (text := "there is no such flight") (by decide) (Nat.le_of_ble_eq_true rfl) (by omega) (Nat.le_of_ble_eq_true rfl) (Nat.le_of_ble_eq_true rfl) h
  · replace h := h.2 c1
    refine a_iload_n dX7_checkFlight_4 rfl rfl ?_
    refine a_aload_n dX7_checkFlight_5 rfl rfl ?_
    refine a_getR dX7_checkFlight_6 fw_RX7_26 rfl rfl (kRun_0 h_r0) (rRun_0_2 h_r0) ?_
    refine a_getR dX7_checkFlight_9 fw_RX7_77 rfl rfl (kRun_20 h_r0) (rRun_20_1 h_r0) ?_
    refine a_getIV dX7_checkFlight_12 fw_RX7_81 rfl rfl (kRun_25 h_r0) (sko (by omega) (sk_5_0 hS)) ?_
    refine a_icmp_lt dX7_checkFlight_15 (tgt := 29) rfl (fun c15 => ?_) (fun c15 => ?_)
    · replace h := h.1 c15
      exact a_vret dX7_checkFlight_29 rfl (Nat.le_of_ble_eq_true rfl) (Nat.le_of_ble_eq_true rfl) h
    · replace h := h.2 c15
      exact a_thrW 1 hG dX7_checkFlight_18 dX7_checkFlight_21 dX7_checkFlight_22 dX7_checkFlight_25 dX7_checkFlight_28 rfl rfl (by unfold exK; decide) (text := "there is no such flight") (by decide) (Nat.le_of_ble_eq_true rfl) (by omega) (Nat.le_of_ble_eq_true rfl) (Nat.le_of_ble_eq_true rfl) h


theorem dX7_checkRunway_0 : decode cX7_checkRunway 0 = .ok (.iload_n 1, 1) := by decide +kernel
theorem dX7_checkRunway_1 : decode cX7_checkRunway 1 = .ok (.ifCond .lt 17, 3) := by decide +kernel
theorem dX7_checkRunway_4 : decode cX7_checkRunway 4 = .ok (.iload_n 1, 1) := by decide +kernel
theorem dX7_checkRunway_5 : decode cX7_checkRunway 5 = .ok (.aload_n 0, 1) := by decide +kernel
theorem dX7_checkRunway_6 : decode cX7_checkRunway 6 = .ok (.getfield 26, 3) := by decide +kernel
theorem dX7_checkRunway_9 : decode cX7_checkRunway 9 = .ok (.getfield 90, 3) := by decide +kernel
theorem dX7_checkRunway_12 : decode cX7_checkRunway 12 = .ok (.getfield 94, 3) := by decide +kernel
theorem dX7_checkRunway_15 : decode cX7_checkRunway 15 = .ok (.if_icmp .lt 14, 3) := by decide +kernel
theorem dX7_checkRunway_18 : decode cX7_checkRunway 18 = .ok (.new 299, 3) := by decide +kernel
theorem dX7_checkRunway_21 : decode cX7_checkRunway 21 = .ok (.dup, 1) := by decide +kernel
theorem dX7_checkRunway_22 : decode cX7_checkRunway 22 = .ok (.ldc_w 304, 3) := by decide +kernel
theorem dX7_checkRunway_25 : decode cX7_checkRunway 25 = .ok (.invokespecial 303, 3) := by decide +kernel
theorem dX7_checkRunway_28 : decode cX7_checkRunway 28 = .ok (.athrow, 1) := by decide +kernel
theorem dX7_checkRunway_29 : decode cX7_checkRunway 29 = .ok (.return_, 1) := by decide +kernel
set_option maxRecDepth 20000 in
theorem s_X7_checkRunway_0 {l : Launch} {G : GT} {d : Nat} {Q : AV → AH → Prop} {H : AH} {a0 x1 : Int} (hG : GX l G) {M : Row} (hS : SK H (a0 + 20) M) (h_r0 : Lay LRun H a0) (h : (x1 < 0 → Q (vT 1) H) ∧ (0 ≤ x1 → (x1 < (M 5) → Q vV H) ∧ ((M 5) ≤ x1 → Q (vT 1) H))) (hd : 6 ≤ d := by omega) : AW l G mX7_checkRunway d 1 6 Q 0 [vR a0, vI x1] [] 0 0 H := by
  refine a_iload_n dX7_checkRunway_0 rfl rfl ?_
  refine a_if_lt dX7_checkRunway_1 (tgt := 18) rfl (fun c1 => ?_) (fun c1 => ?_)
  · replace h := h.1 c1
    exact a_thrW 1 hG dX7_checkRunway_18 dX7_checkRunway_21 dX7_checkRunway_22 dX7_checkRunway_25 dX7_checkRunway_28 rfl rfl (by unfold exK; decide) (text := "there is no such runway") (by decide) (Nat.le_of_ble_eq_true rfl) (by omega) (Nat.le_of_ble_eq_true rfl) (Nat.le_of_ble_eq_true rfl) h
  · replace h := h.2 c1
    refine a_iload_n dX7_checkRunway_4 rfl rfl ?_
    refine a_aload_n dX7_checkRunway_5 rfl rfl ?_
    refine a_getR dX7_checkRunway_6 fw_RX7_26 rfl rfl (kRun_0 h_r0) (rRun_0_2 h_r0) ?_
    refine a_getR dX7_checkRunway_9 fw_RX7_90 rfl rfl (kRun_20 h_r0) (rRun_20_0 h_r0) ?_
    refine a_getIV dX7_checkRunway_12 fw_RX7_94 rfl rfl (kRun_21 h_r0) (sko (by omega) (sk_1_0 hS)) ?_
    refine a_icmp_lt dX7_checkRunway_15 (tgt := 29) rfl (fun c15 => ?_) (fun c15 => ?_)
    · replace h := h.1 c15
      exact a_vret dX7_checkRunway_29 rfl (Nat.le_of_ble_eq_true rfl) (Nat.le_of_ble_eq_true rfl) h
    · replace h := h.2 c15
      exact a_thrW 1 hG dX7_checkRunway_18 dX7_checkRunway_21 dX7_checkRunway_22 dX7_checkRunway_25 dX7_checkRunway_28 rfl rfl (by unfold exK; decide) (text := "there is no such runway") (by decide) (Nat.le_of_ble_eq_true rfl) (by omega) (Nat.le_of_ble_eq_true rfl) (Nat.le_of_ble_eq_true rfl) h


theorem dX7_checkClass_0 : decode cX7_checkClass 0 = .ok (.iload_n 0, 1) := by decide +kernel
theorem dX7_checkClass_1 : decode cX7_checkClass 1 = .ok (.ifCond .lt 8, 3) := by decide +kernel
theorem dX7_checkClass_4 : decode cX7_checkClass 4 = .ok (.iload_n 0, 1) := by decide +kernel
theorem dX7_checkClass_5 : decode cX7_checkClass 5 = .ok (.iconst 4, 1) := by decide +kernel
theorem dX7_checkClass_6 : decode cX7_checkClass 6 = .ok (.if_icmp .lt 14, 3) := by decide +kernel
theorem dX7_checkClass_9 : decode cX7_checkClass 9 = .ok (.new 44, 3) := by decide +kernel
theorem dX7_checkClass_12 : decode cX7_checkClass 12 = .ok (.dup, 1) := by decide +kernel
theorem dX7_checkClass_13 : decode cX7_checkClass 13 = .ok (.ldc_w 306, 3) := by decide +kernel
theorem dX7_checkClass_16 : decode cX7_checkClass 16 = .ok (.invokespecial 48, 3) := by decide +kernel
theorem dX7_checkClass_19 : decode cX7_checkClass 19 = .ok (.athrow, 1) := by decide +kernel
theorem dX7_checkClass_20 : decode cX7_checkClass 20 = .ok (.return_, 1) := by decide +kernel
set_option maxRecDepth 20000 in
theorem s_X7_checkClass_0 {l : Launch} {G : GT} {d : Nat} {Q : AV → AH → Prop} {H : AH} {x0 : Int} (hG : GX l G) (h : (x0 < 0 → Q (vT 0) H) ∧ (0 ≤ x0 → (x0 < 4 → Q vV H) ∧ (4 ≤ x0 → Q (vT 0) H))) (hd : 6 ≤ d := by omega) : AW l G mX7_checkClass d 1 6 Q 0 [vI x0] [] 0 0 H := by
  refine a_iload_n dX7_checkClass_0 rfl rfl ?_
  refine a_if_lt dX7_checkClass_1 (tgt := 9) rfl (fun c1 => ?_) (fun c1 => ?_)
  · replace h := h.1 c1
    exact a_thrW 0 hG dX7_checkClass_9 dX7_checkClass_12 dX7_checkClass_13 dX7_checkClass_16 dX7_checkClass_19 rfl rfl (by unfold exK; decide) (text := "a class is 0 to 3") (by decide) (Nat.le_of_ble_eq_true rfl) (by omega) (Nat.le_of_ble_eq_true rfl) (Nat.le_of_ble_eq_true rfl) h
  · replace h := h.2 c1
    refine a_iload_n dX7_checkClass_4 rfl rfl ?_
    refine a_iconst dX7_checkClass_5 ⟨by decide, by decide⟩ ?_
    refine a_icmp_lt dX7_checkClass_6 (tgt := 20) rfl (fun c6 => ?_) (fun c6 => ?_)
    · replace h := h.1 c6
      exact a_vret dX7_checkClass_20 rfl (Nat.le_of_ble_eq_true rfl) (Nat.le_of_ble_eq_true rfl) h
    · replace h := h.2 c6
      exact a_thrW 0 hG dX7_checkClass_9 dX7_checkClass_12 dX7_checkClass_13 dX7_checkClass_16 dX7_checkClass_19 rfl rfl (by unfold exK; decide) (text := "a class is 0 to 3") (by decide) (Nat.le_of_ble_eq_true rfl) (by omega) (Nat.le_of_ble_eq_true rfl) (Nat.le_of_ble_eq_true rfl) h


theorem dX7_checkShift_0 : decode cX7_checkShift 0 = .ok (.iload_n 0, 1) := by decide +kernel
theorem dX7_checkShift_1 : decode cX7_checkShift 1 = .ok (.ifCond .lt 8, 3) := by decide +kernel
theorem dX7_checkShift_4 : decode cX7_checkShift 4 = .ok (.iload_n 0, 1) := by decide +kernel
theorem dX7_checkShift_5 : decode cX7_checkShift 5 = .ok (.iconst 4, 1) := by decide +kernel
theorem dX7_checkShift_6 : decode cX7_checkShift 6 = .ok (.if_icmp .le 14, 3) := by decide +kernel
theorem dX7_checkShift_9 : decode cX7_checkShift 9 = .ok (.new 44, 3) := by decide +kernel
theorem dX7_checkShift_12 : decode cX7_checkShift 12 = .ok (.dup, 1) := by decide +kernel
theorem dX7_checkShift_13 : decode cX7_checkShift 13 = .ok (.ldc_w 308, 3) := by decide +kernel
theorem dX7_checkShift_16 : decode cX7_checkShift 16 = .ok (.invokespecial 48, 3) := by decide +kernel
theorem dX7_checkShift_19 : decode cX7_checkShift 19 = .ok (.athrow, 1) := by decide +kernel
theorem dX7_checkShift_20 : decode cX7_checkShift 20 = .ok (.return_, 1) := by decide +kernel
set_option maxRecDepth 20000 in
theorem s_X7_checkShift_0 {l : Launch} {G : GT} {d : Nat} {Q : AV → AH → Prop} {H : AH} {x0 : Int} (hG : GX l G) (h : (x0 < 0 → Q (vT 0) H) ∧ (0 ≤ x0 → (x0 ≤ 4 → Q vV H) ∧ (4 < x0 → Q (vT 0) H))) (hd : 6 ≤ d := by omega) : AW l G mX7_checkShift d 1 6 Q 0 [vI x0] [] 0 0 H := by
  refine a_iload_n dX7_checkShift_0 rfl rfl ?_
  refine a_if_lt dX7_checkShift_1 (tgt := 9) rfl (fun c1 => ?_) (fun c1 => ?_)
  · replace h := h.1 c1
    exact a_thrW 0 hG dX7_checkShift_9 dX7_checkShift_12 dX7_checkShift_13 dX7_checkShift_16 dX7_checkShift_19 rfl rfl (by unfold exK; decide) (text := "a shift is 0 to 4") (by decide) (Nat.le_of_ble_eq_true rfl) (by omega) (Nat.le_of_ble_eq_true rfl) (Nat.le_of_ble_eq_true rfl) h
  · replace h := h.2 c1
    refine a_iload_n dX7_checkShift_4 rfl rfl ?_
    refine a_iconst dX7_checkShift_5 ⟨by decide, by decide⟩ ?_
    refine a_icmp_le dX7_checkShift_6 (tgt := 20) rfl (fun c6 => ?_) (fun c6 => ?_)
    · replace h := h.1 c6
      exact a_vret dX7_checkShift_20 rfl (Nat.le_of_ble_eq_true rfl) (Nat.le_of_ble_eq_true rfl) h
    · replace h := h.2 c6
      exact a_thrW 0 hG dX7_checkShift_9 dX7_checkShift_12 dX7_checkShift_13 dX7_checkShift_16 dX7_checkShift_19 rfl rfl (by unfold exK; decide) (text := "a shift is 0 to 4") (by decide) (Nat.le_of_ble_eq_true rfl) (by omega) (Nat.le_of_ble_eq_true rfl) (Nat.le_of_ble_eq_true rfl) h


theorem dX7_checkSeconds_0 : decode cX7_checkSeconds 0 = .ok (.iload_n 0, 1) := by decide +kernel
theorem dX7_checkSeconds_1 : decode cX7_checkSeconds 1 = .ok (.iconst 1, 1) := by decide +kernel
theorem dX7_checkSeconds_2 : decode cX7_checkSeconds 2 = .ok (.if_icmp .lt 10, 3) := by decide +kernel
theorem dX7_checkSeconds_5 : decode cX7_checkSeconds 5 = .ok (.iload_n 0, 1) := by decide +kernel
theorem dX7_checkSeconds_6 : decode cX7_checkSeconds 6 = .ok (.sipush 7200, 3) := by decide +kernel
theorem dX7_checkSeconds_9 : decode cX7_checkSeconds 9 = .ok (.if_icmp .le 14, 3) := by decide +kernel
theorem dX7_checkSeconds_12 : decode cX7_checkSeconds 12 = .ok (.new 44, 3) := by decide +kernel
theorem dX7_checkSeconds_15 : decode cX7_checkSeconds 15 = .ok (.dup, 1) := by decide +kernel
theorem dX7_checkSeconds_16 : decode cX7_checkSeconds 16 = .ok (.ldc_w 310, 3) := by decide +kernel
theorem dX7_checkSeconds_19 : decode cX7_checkSeconds 19 = .ok (.invokespecial 48, 3) := by decide +kernel
theorem dX7_checkSeconds_22 : decode cX7_checkSeconds 22 = .ok (.athrow, 1) := by decide +kernel
theorem dX7_checkSeconds_23 : decode cX7_checkSeconds 23 = .ok (.return_, 1) := by decide +kernel
set_option maxRecDepth 20000 in
theorem s_X7_checkSeconds_0 {l : Launch} {G : GT} {d : Nat} {Q : AV → AH → Prop} {H : AH} {x0 : Int} (hG : GX l G) (h : (x0 < 1 → Q (vT 0) H) ∧ (1 ≤ x0 → (x0 ≤ 7200 → Q vV H) ∧ (7200 < x0 → Q (vT 0) H))) (hd : 6 ≤ d := by omega) : AW l G mX7_checkSeconds d 1 6 Q 0 [vI x0] [] 0 0 H := by
  refine a_iload_n dX7_checkSeconds_0 rfl rfl ?_
  refine a_iconst dX7_checkSeconds_1 ⟨by decide, by decide⟩ ?_
  refine a_icmp_lt dX7_checkSeconds_2 (tgt := 12) rfl (fun c2 => ?_) (fun c2 => ?_)
  · replace h := h.1 c2
    exact a_thrW 0 hG dX7_checkSeconds_12 dX7_checkSeconds_15 dX7_checkSeconds_16 dX7_checkSeconds_19 dX7_checkSeconds_22 rfl rfl (by unfold exK; decide) (text := "seconds are 1 to 7200") (by decide) (Nat.le_of_ble_eq_true rfl) (by omega) (Nat.le_of_ble_eq_true rfl) (Nat.le_of_ble_eq_true rfl) h
  · replace h := h.2 c2
    refine a_iload_n dX7_checkSeconds_5 rfl rfl ?_
    refine a_sipush dX7_checkSeconds_6 (by decide) ?_
    refine a_icmp_le dX7_checkSeconds_9 (tgt := 23) rfl (fun c9 => ?_) (fun c9 => ?_)
    · replace h := h.1 c9
      exact a_vret dX7_checkSeconds_23 rfl (Nat.le_of_ble_eq_true rfl) (Nat.le_of_ble_eq_true rfl) h
    · replace h := h.2 c9
      exact a_thrW 0 hG dX7_checkSeconds_12 dX7_checkSeconds_15 dX7_checkSeconds_16 dX7_checkSeconds_19 dX7_checkSeconds_22 rfl rfl (by unfold exK; decide) (text := "seconds are 1 to 7200") (by decide) (Nat.le_of_ble_eq_true rfl) (by omega) (Nat.le_of_ble_eq_true rfl) (Nat.le_of_ble_eq_true rfl) h


theorem dX7_checkSlot_0 : decode cX7_checkSlot 0 = .ok (.iload_n 0, 1) := by decide +kernel
theorem dX7_checkSlot_1 : decode cX7_checkSlot 1 = .ok (.ifCond .lt 8, 3) := by decide +kernel
theorem dX7_checkSlot_4 : decode cX7_checkSlot 4 = .ok (.iload_n 0, 1) := by decide +kernel
theorem dX7_checkSlot_5 : decode cX7_checkSlot 5 = .ok (.iconst 2, 1) := by decide +kernel
theorem dX7_checkSlot_6 : decode cX7_checkSlot 6 = .ok (.if_icmp .lt 14, 3) := by decide +kernel
theorem dX7_checkSlot_9 : decode cX7_checkSlot 9 = .ok (.new 44, 3) := by decide +kernel
theorem dX7_checkSlot_12 : decode cX7_checkSlot 12 = .ok (.dup, 1) := by decide +kernel
theorem dX7_checkSlot_13 : decode cX7_checkSlot 13 = .ok (.ldc_w 312, 3) := by decide +kernel
theorem dX7_checkSlot_16 : decode cX7_checkSlot 16 = .ok (.invokespecial 48, 3) := by decide +kernel
theorem dX7_checkSlot_19 : decode cX7_checkSlot 19 = .ok (.athrow, 1) := by decide +kernel
theorem dX7_checkSlot_20 : decode cX7_checkSlot 20 = .ok (.return_, 1) := by decide +kernel
set_option maxRecDepth 20000 in
theorem s_X7_checkSlot_0 {l : Launch} {G : GT} {d : Nat} {Q : AV → AH → Prop} {H : AH} {x0 : Int} (hG : GX l G) (h : (x0 < 0 → Q (vT 0) H) ∧ (0 ≤ x0 → (x0 < 2 → Q vV H) ∧ (2 ≤ x0 → Q (vT 0) H))) (hd : 6 ≤ d := by omega) : AW l G mX7_checkSlot d 1 6 Q 0 [vI x0] [] 0 0 H := by
  refine a_iload_n dX7_checkSlot_0 rfl rfl ?_
  refine a_if_lt dX7_checkSlot_1 (tgt := 9) rfl (fun c1 => ?_) (fun c1 => ?_)
  · replace h := h.1 c1
    exact a_thrW 0 hG dX7_checkSlot_9 dX7_checkSlot_12 dX7_checkSlot_13 dX7_checkSlot_16 dX7_checkSlot_19 rfl rfl (by unfold exK; decide) (text := "a slot is 0 or 1") (by decide) (Nat.le_of_ble_eq_true rfl) (by omega) (Nat.le_of_ble_eq_true rfl) (Nat.le_of_ble_eq_true rfl) h
  · replace h := h.2 c1
    refine a_iload_n dX7_checkSlot_4 rfl rfl ?_
    refine a_iconst dX7_checkSlot_5 ⟨by decide, by decide⟩ ?_
    refine a_icmp_lt dX7_checkSlot_6 (tgt := 20) rfl (fun c6 => ?_) (fun c6 => ?_)
    · replace h := h.1 c6
      exact a_vret dX7_checkSlot_20 rfl (Nat.le_of_ble_eq_true rfl) (Nat.le_of_ble_eq_true rfl) h
    · replace h := h.2 c6
      exact a_thrW 0 hG dX7_checkSlot_9 dX7_checkSlot_12 dX7_checkSlot_13 dX7_checkSlot_16 dX7_checkSlot_19 rfl rfl (by unfold exK; decide) (text := "a slot is 0 or 1") (by decide) (Nat.le_of_ble_eq_true rfl) (by omega) (Nat.le_of_ble_eq_true rfl) (Nat.le_of_ble_eq_true rfl) h


theorem dX7_errorOfMove_0 : decode cX7_errorOfMove 0 = .ok (.aload_n 0, 1) := by decide +kernel
theorem dX7_errorOfMove_1 : decode cX7_errorOfMove 1 = .ok (.getfield 26, 3) := by decide +kernel
theorem dX7_errorOfMove_4 : decode cX7_errorOfMove 4 = .ok (.getfield 170, 3) := by decide +kernel
theorem dX7_errorOfMove_7 : decode cX7_errorOfMove 7 = .ok (.iload_n 1, 1) := by decide +kernel
theorem dX7_errorOfMove_8 : decode cX7_errorOfMove 8 = .ok (.iaload, 1) := by decide +kernel
theorem dX7_errorOfMove_9 : decode cX7_errorOfMove 9 = .ok (.ifCond .eq 6, 3) := by decide +kernel
theorem dX7_errorOfMove_12 : decode cX7_errorOfMove 12 = .ok (.bipush (-3), 2) := by decide +kernel
theorem dX7_errorOfMove_14 : decode cX7_errorOfMove 14 = .ok (.ireturn, 1) := by decide +kernel
theorem dX7_errorOfMove_15 : decode cX7_errorOfMove 15 = .ok (.aload_n 0, 1) := by decide +kernel
theorem dX7_errorOfMove_16 : decode cX7_errorOfMove 16 = .ok (.getfield 26, 3) := by decide +kernel
theorem dX7_errorOfMove_19 : decode cX7_errorOfMove 19 = .ok (.getfield 77, 3) := by decide +kernel
theorem dX7_errorOfMove_22 : decode cX7_errorOfMove 22 = .ok (.iload_n 1, 1) := by decide +kernel
theorem dX7_errorOfMove_23 : decode cX7_errorOfMove 23 = .ok (.iload_n 2, 1) := by decide +kernel
theorem dX7_errorOfMove_24 : decode cX7_errorOfMove 24 = .ok (.invokevirtual 267, 3) := by decide +kernel
theorem dX7_errorOfMove_27 : decode cX7_errorOfMove 27 = .ok (.ifCond .eq 7, 3) := by decide +kernel
theorem dX7_errorOfMove_30 : decode cX7_errorOfMove 30 = .ok (.iconst 0, 1) := by decide +kernel
theorem dX7_errorOfMove_31 : decode cX7_errorOfMove 31 = .ok (.goto 5, 3) := by decide +kernel
theorem dX7_errorOfMove_34 : decode cX7_errorOfMove 34 = .ok (.bipush (-4), 2) := by decide +kernel
theorem dX7_errorOfMove_36 : decode cX7_errorOfMove 36 = .ok (.ireturn, 1) := by decide +kernel
set_option maxRecDepth 20000 in
theorem s_X7_errorOfMove_0 {l : Launch} {G : GT} {d : Nat} {Q : AV → AH → Prop} {H : AH} {a0 x1 x2 : Int} {M : Row} (hS : SK H (a0 + 20) M) (h_r0 : Lay LRun H a0) (h : (0 ≤ x1 ∧ x1 < M 6) ∧ ((ofM M x1 7) = 0 → (fl M x1) ∧ (0 ≤ x2 ∧ x2 < 3) ∧ (¬ (shr (ofM M x1 5) x2 % 2 = 1) → Q (vI (-4)) H) ∧ (shr (ofM M x1 5) x2 % 2 = 1 → Q (vI 0) H)) ∧ (¬ (ofM M x1 7) = 0 → Q (vI (-3)) H)) : AW l G mX7_errorOfMove (d + 1) 0 0 Q 0 [vR a0, vI x1, vI x2] [] 0 0 H := by
  refine a_aload_n dX7_errorOfMove_0 rfl rfl ?_
  refine a_getR dX7_errorOfMove_1 fw_RX7_26 rfl rfl (kRun_0 h_r0) (rRun_0_2 h_r0) ?_
  refine a_getR dX7_errorOfMove_4 fw_RX7_170 rfl rfl (kRun_20 h_r0) (rRun_20_4 h_r0) ?_
  refine a_iload_n dX7_errorOfMove_7 rfl rfl ?_
  obtain ⟨q8_0, h⟩ := h
  refine b_ialdV dX7_errorOfMove_8 (kRun_35 h_r0) (nRun_35 h_r0) (sk_lt hS q8_0) (sko (by omega) (sk_15 hS q8_0)) ?_
  refine a_if_eq dX7_errorOfMove_9 (tgt := 15) rfl (fun c9 => ?_) (fun c9 => ?_)
  · replace h := h.1 c9
    refine a_aload_n dX7_errorOfMove_15 rfl rfl ?_
    refine a_getR dX7_errorOfMove_16 fw_RX7_26 rfl rfl (kRun_0 h_r0) (rRun_0_2 h_r0) ?_
    refine a_getR dX7_errorOfMove_19 fw_RX7_77 rfl rfl (kRun_20 h_r0) (rRun_20_1 h_r0) ?_
    refine a_iload_n dX7_errorOfMove_22 rfl rfl ?_
    refine a_iload_n dX7_errorOfMove_23 rfl rfl ?_
    obtain ⟨q24_0, h⟩ := h
    obtain ⟨q24_1, h⟩ := h
    refine a_callV dX7_errorOfMove_24 cw_X7_errorOfMove_24 (as := [vI x1, vI x2]) rfl rfl (kRun_25 h_r0) (Nat.le_refl _) (Nat.le_of_ble_eq_true rfl) (nocov rfl) (Nat.le_of_ble_eq_true rfl) (Nat.le_of_ble_eq_true rfl) (CL.mono (CL.arg (a' := (a0 + 20) + 5) (by omega) (k_mayUse hS  q24_0 q24_1)) (fun r9 H9 h9 => ?_))
    rw [h9.1, h9.2]
    show AW l G mX7_errorOfMove (d + 1) 0 0 Q 27 [vR a0, vI x1, vI x2] [vI (bi (decide (shr (ofM M x1 5) x2 % 2 = 1)))] 0 0 H
    refine a_if_eq dX7_errorOfMove_27 (tgt := 34) rfl (fun c27 => ?_) (fun c27 => ?_)
    · replace h := h.1 (bi_0 c27)
      refine a_bipush dX7_errorOfMove_34 (by decide) ?_
      exact a_iret dX7_errorOfMove_36 rfl (Nat.le_of_ble_eq_true rfl) (Nat.le_of_ble_eq_true rfl) h
    · replace h := h.2 (bi_1 c27)
      refine a_iconst dX7_errorOfMove_30 ⟨by decide, by decide⟩ ?_
      refine a_goto dX7_errorOfMove_31 (tgt := 36) rfl ?_
      exact a_iret dX7_errorOfMove_36 rfl (Nat.le_of_ble_eq_true rfl) (Nat.le_of_ble_eq_true rfl) h
  · replace h := h.2 c9
    refine a_bipush dX7_errorOfMove_12 (by decide) ?_
    exact a_iret dX7_errorOfMove_14 rfl (Nat.le_of_ble_eq_true rfl) (Nat.le_of_ble_eq_true rfl) h


theorem dX7_errorOfTurn_0 : decode cX7_errorOfTurn 0 = .ok (.aload_n 0, 1) := by decide +kernel
theorem dX7_errorOfTurn_1 : decode cX7_errorOfTurn 1 = .ok (.getfield 26, 3) := by decide +kernel
theorem dX7_errorOfTurn_4 : decode cX7_errorOfTurn 4 = .ok (.getfield 170, 3) := by decide +kernel
theorem dX7_errorOfTurn_7 : decode cX7_errorOfTurn 7 = .ok (.iload_n 1, 1) := by decide +kernel
theorem dX7_errorOfTurn_8 : decode cX7_errorOfTurn 8 = .ok (.iaload, 1) := by decide +kernel
theorem dX7_errorOfTurn_9 : decode cX7_errorOfTurn 9 = .ok (.iconst 1, 1) := by decide +kernel
theorem dX7_errorOfTurn_10 : decode cX7_errorOfTurn 10 = .ok (.if_icmp .eq 6, 3) := by decide +kernel
theorem dX7_errorOfTurn_13 : decode cX7_errorOfTurn 13 = .ok (.bipush (-3), 2) := by decide +kernel
theorem dX7_errorOfTurn_15 : decode cX7_errorOfTurn 15 = .ok (.ireturn, 1) := by decide +kernel
theorem dX7_errorOfTurn_16 : decode cX7_errorOfTurn 16 = .ok (.aload_n 0, 1) := by decide +kernel
theorem dX7_errorOfTurn_17 : decode cX7_errorOfTurn 17 = .ok (.getfield 26, 3) := by decide +kernel
theorem dX7_errorOfTurn_20 : decode cX7_errorOfTurn 20 = .ok (.getfield 77, 3) := by decide +kernel
theorem dX7_errorOfTurn_23 : decode cX7_errorOfTurn 23 = .ok (.getfield 109, 3) := by decide +kernel
theorem dX7_errorOfTurn_26 : decode cX7_errorOfTurn 26 = .ok (.iload_n 1, 1) := by decide +kernel
theorem dX7_errorOfTurn_27 : decode cX7_errorOfTurn 27 = .ok (.baload, 1) := by decide +kernel
theorem dX7_errorOfTurn_28 : decode cX7_errorOfTurn 28 = .ok (.ifCond .eq 7, 3) := by decide +kernel
theorem dX7_errorOfTurn_31 : decode cX7_errorOfTurn 31 = .ok (.iconst 0, 1) := by decide +kernel
theorem dX7_errorOfTurn_32 : decode cX7_errorOfTurn 32 = .ok (.goto 5, 3) := by decide +kernel
theorem dX7_errorOfTurn_35 : decode cX7_errorOfTurn 35 = .ok (.bipush (-4), 2) := by decide +kernel
theorem dX7_errorOfTurn_37 : decode cX7_errorOfTurn 37 = .ok (.ireturn, 1) := by decide +kernel
set_option maxRecDepth 20000 in
theorem s_X7_errorOfTurn_0 {l : Launch} {G : GT} {d : Nat} {Q : AV → AH → Prop} {H : AH} {a0 x1 : Int} {M : Row} (hS : SK H (a0 + 20) M) (h_r0 : Lay LRun H a0) (h : (0 ≤ x1 ∧ x1 < M 6) ∧ ((ofM M x1 7) = 1 → ((ofM M x1 0) = 0 → Q (vI (-4)) H) ∧ (¬ (ofM M x1 0) = 0 → Q (vI 0) H)) ∧ (¬ (ofM M x1 7) = 1 → Q (vI (-3)) H)) : AW l G mX7_errorOfTurn d 0 0 Q 0 [vR a0, vI x1] [] 0 0 H := by
  refine a_aload_n dX7_errorOfTurn_0 rfl rfl ?_
  refine a_getR dX7_errorOfTurn_1 fw_RX7_26 rfl rfl (kRun_0 h_r0) (rRun_0_2 h_r0) ?_
  refine a_getR dX7_errorOfTurn_4 fw_RX7_170 rfl rfl (kRun_20 h_r0) (rRun_20_4 h_r0) ?_
  refine a_iload_n dX7_errorOfTurn_7 rfl rfl ?_
  obtain ⟨q8_0, h⟩ := h
  refine b_ialdV dX7_errorOfTurn_8 (kRun_35 h_r0) (nRun_35 h_r0) (sk_lt hS q8_0) (sko (by omega) (sk_15 hS q8_0)) ?_
  refine a_iconst dX7_errorOfTurn_9 ⟨by decide, by decide⟩ ?_
  refine a_icmp_eq dX7_errorOfTurn_10 (tgt := 16) rfl (fun c10 => ?_) (fun c10 => ?_)
  · replace h := h.1 c10
    refine a_aload_n dX7_errorOfTurn_16 rfl rfl ?_
    refine a_getR dX7_errorOfTurn_17 fw_RX7_26 rfl rfl (kRun_0 h_r0) (rRun_0_2 h_r0) ?_
    refine a_getR dX7_errorOfTurn_20 fw_RX7_77 rfl rfl (kRun_20 h_r0) (rRun_20_1 h_r0) ?_
    refine a_getR dX7_errorOfTurn_23 fw_RX7_109 rfl rfl (kRun_25 h_r0) (rRun_25_3 h_r0) ?_
    refine a_iload_n dX7_errorOfTurn_26 rfl rfl ?_
    refine b_zaldV dX7_errorOfTurn_27 (kRun_28 h_r0) (nRun_28 h_r0) (sk_lt hS q8_0) (sko (by omega) (sk_8 hS q8_0)) ?_
    refine a_if_eq dX7_errorOfTurn_28 (tgt := 35) rfl (fun c28 => ?_) (fun c28 => ?_)
    · replace h := h.1 c28
      refine a_bipush dX7_errorOfTurn_35 (by decide) ?_
      exact a_iret dX7_errorOfTurn_37 rfl (Nat.le_of_ble_eq_true rfl) (Nat.le_of_ble_eq_true rfl) h
    · replace h := h.2 c28
      refine a_iconst dX7_errorOfTurn_31 ⟨by decide, by decide⟩ ?_
      refine a_goto dX7_errorOfTurn_32 (tgt := 37) rfl ?_
      exact a_iret dX7_errorOfTurn_37 rfl (Nat.le_of_ble_eq_true rfl) (Nat.le_of_ble_eq_true rfl) h
  · replace h := h.2 c10
    refine a_bipush dX7_errorOfTurn_13 (by decide) ?_
    exact a_iret dX7_errorOfTurn_15 rfl (Nat.le_of_ble_eq_true rfl) (Nat.le_of_ble_eq_true rfl) h


