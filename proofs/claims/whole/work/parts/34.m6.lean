theorem dX8_classOf_0 : decode cX8_classOf 0 = .ok (.aload_n 0, 1) := by decide +kernel
theorem dX8_classOf_1 : decode cX8_classOf 1 = .ok (.iload_n 1, 1) := by decide +kernel
theorem dX8_classOf_2 : decode cX8_classOf 2 = .ok (.iconst 1, 1) := by decide +kernel
theorem dX8_classOf_3 : decode cX8_classOf 3 = .ok (.invokevirtual 198, 3) := by decide +kernel
theorem dX8_classOf_6 : decode cX8_classOf 6 = .ok (.ireturn, 1) := by decide +kernel
set_option maxRecDepth 20000 in
theorem s_X8_classOf_0 {l : Launch} {G : GT} {d : Nat} {Q : AV → AH → Prop} {H : AH} {a0 x1 : Int} {M : Row} (hW : MW H a0 M) (h : ∀ H1 : AH, pbW a0 M (1 - bi (decide (fl M x1))) H H1 → Q (vI (vTold M x1 1)) H1) (hd : 2 ≤ d := by omega) : AW l G mX8_classOf (d + 1) 0 0 Q 0 [vR a0, vI x1] [] 0 0 H := by
  refine a_aload_n dX8_classOf_0 rfl rfl ?_
  refine a_iload_n dX8_classOf_1 rfl rfl ?_
  refine a_iconst dX8_classOf_2 ⟨by decide, by decide⟩ ?_
  refine a_callV dX8_classOf_3 cw_X8_classOf_3 (as := [vI x1, vI 1]) rfl rfl (kMod_0 hW.1) (Nat.le_refl _) (Nat.le_of_ble_eq_true rfl) (nocov rfl) (Nat.le_of_ble_eq_true rfl) (Nat.le_of_ble_eq_true rfl) (CL.mono (c_told (show MW H a0 M from ⟨hW.1, hW.2.1, hW.2.2⟩) (⟨by decide, by decide⟩)) (fun r9 H1 h9 => ?_))
  obtain ⟨e9, hB_H1⟩ := h9
  rw [e9]
  replace h := h H1 hB_H1
  show AW l G mX8_classOf (d + 1) 0 0 Q 6 [vR a0, vI x1] [vI (vTold M x1 1)] 0 0 H1
  exact a_iret dX8_classOf_6 rfl (Nat.le_of_ble_eq_true rfl) (Nat.le_of_ble_eq_true rfl) h

theorem c_classOf {l : Launch} {G : GT} {d : Nat} {H : AH} {a : Int} {M : Row} {f : Int} (hW : MW H a M) (hd : 3 ≤ d := by omega) : CL l G mX8_classOf d 0 0 [vR a, vI f] H (pubP a M (vI (vTold M f 1)) (1 - bi (decide (fl M f))) H) := by
  obtain ⟨d, rfl⟩ : ∃ k, d = k + 1 := ⟨d - 1, by omega⟩
  exact CL.of (by decide) rfl (Nat.le_of_ble_eq_true rfl) (s_X8_classOf_0 hW fun H1 b1 => ⟨rfl, b1⟩)

theorem dX8_earliest_0 : decode cX8_earliest 0 = .ok (.aload_n 0, 1) := by decide +kernel
theorem dX8_earliest_1 : decode cX8_earliest 1 = .ok (.iload_n 1, 1) := by decide +kernel
theorem dX8_earliest_2 : decode cX8_earliest 2 = .ok (.iconst 2, 1) := by decide +kernel
theorem dX8_earliest_3 : decode cX8_earliest 3 = .ok (.invokevirtual 198, 3) := by decide +kernel
theorem dX8_earliest_6 : decode cX8_earliest 6 = .ok (.ireturn, 1) := by decide +kernel
set_option maxRecDepth 20000 in
theorem s_X8_earliest_0 {l : Launch} {G : GT} {d : Nat} {Q : AV → AH → Prop} {H : AH} {a0 x1 : Int} {M : Row} (hW : MW H a0 M) (h : ∀ H1 : AH, pbW a0 M (1 - bi (decide (fl M x1))) H H1 → Q (vI (vTold M x1 2)) H1) (hd : 2 ≤ d := by omega) : AW l G mX8_earliest (d + 1) 0 0 Q 0 [vR a0, vI x1] [] 0 0 H := by
  refine a_aload_n dX8_earliest_0 rfl rfl ?_
  refine a_iload_n dX8_earliest_1 rfl rfl ?_
  refine a_iconst dX8_earliest_2 ⟨by decide, by decide⟩ ?_
  refine a_callV dX8_earliest_3 cw_X8_earliest_3 (as := [vI x1, vI 2]) rfl rfl (kMod_0 hW.1) (Nat.le_refl _) (Nat.le_of_ble_eq_true rfl) (nocov rfl) (Nat.le_of_ble_eq_true rfl) (Nat.le_of_ble_eq_true rfl) (CL.mono (c_told (show MW H a0 M from ⟨hW.1, hW.2.1, hW.2.2⟩) (⟨by decide, by decide⟩)) (fun r9 H1 h9 => ?_))
  obtain ⟨e9, hB_H1⟩ := h9
  rw [e9]
  replace h := h H1 hB_H1
  show AW l G mX8_earliest (d + 1) 0 0 Q 6 [vR a0, vI x1] [vI (vTold M x1 2)] 0 0 H1
  exact a_iret dX8_earliest_6 rfl (Nat.le_of_ble_eq_true rfl) (Nat.le_of_ble_eq_true rfl) h

theorem c_earliest {l : Launch} {G : GT} {d : Nat} {H : AH} {a : Int} {M : Row} {f : Int} (hW : MW H a M) (hd : 3 ≤ d := by omega) : CL l G mX8_earliest d 0 0 [vR a, vI f] H (pubP a M (vI (vTold M f 2)) (1 - bi (decide (fl M f))) H) := by
  obtain ⟨d, rfl⟩ : ∃ k, d = k + 1 := ⟨d - 1, by omega⟩
  exact CL.of (by decide) rfl (Nat.le_of_ble_eq_true rfl) (s_X8_earliest_0 hW fun H1 b1 => ⟨rfl, b1⟩)

theorem dX8_target_0 : decode cX8_target 0 = .ok (.aload_n 0, 1) := by decide +kernel
theorem dX8_target_1 : decode cX8_target 1 = .ok (.iload_n 1, 1) := by decide +kernel
theorem dX8_target_2 : decode cX8_target 2 = .ok (.iconst 3, 1) := by decide +kernel
theorem dX8_target_3 : decode cX8_target 3 = .ok (.invokevirtual 198, 3) := by decide +kernel
theorem dX8_target_6 : decode cX8_target 6 = .ok (.ireturn, 1) := by decide +kernel
set_option maxRecDepth 20000 in
theorem s_X8_target_0 {l : Launch} {G : GT} {d : Nat} {Q : AV → AH → Prop} {H : AH} {a0 x1 : Int} {M : Row} (hW : MW H a0 M) (h : ∀ H1 : AH, pbW a0 M (1 - bi (decide (fl M x1))) H H1 → Q (vI (vTold M x1 3)) H1) (hd : 2 ≤ d := by omega) : AW l G mX8_target (d + 1) 0 0 Q 0 [vR a0, vI x1] [] 0 0 H := by
  refine a_aload_n dX8_target_0 rfl rfl ?_
  refine a_iload_n dX8_target_1 rfl rfl ?_
  refine a_iconst dX8_target_2 ⟨by decide, by decide⟩ ?_
  refine a_callV dX8_target_3 cw_X8_target_3 (as := [vI x1, vI 3]) rfl rfl (kMod_0 hW.1) (Nat.le_refl _) (Nat.le_of_ble_eq_true rfl) (nocov rfl) (Nat.le_of_ble_eq_true rfl) (Nat.le_of_ble_eq_true rfl) (CL.mono (c_told (show MW H a0 M from ⟨hW.1, hW.2.1, hW.2.2⟩) (⟨by decide, by decide⟩)) (fun r9 H1 h9 => ?_))
  obtain ⟨e9, hB_H1⟩ := h9
  rw [e9]
  replace h := h H1 hB_H1
  show AW l G mX8_target (d + 1) 0 0 Q 6 [vR a0, vI x1] [vI (vTold M x1 3)] 0 0 H1
  exact a_iret dX8_target_6 rfl (Nat.le_of_ble_eq_true rfl) (Nat.le_of_ble_eq_true rfl) h

theorem c_target {l : Launch} {G : GT} {d : Nat} {H : AH} {a : Int} {M : Row} {f : Int} (hW : MW H a M) (hd : 3 ≤ d := by omega) : CL l G mX8_target d 0 0 [vR a, vI f] H (pubP a M (vI (vTold M f 3)) (1 - bi (decide (fl M f))) H) := by
  obtain ⟨d, rfl⟩ : ∃ k, d = k + 1 := ⟨d - 1, by omega⟩
  exact CL.of (by decide) rfl (Nat.le_of_ble_eq_true rfl) (s_X8_target_0 hW fun H1 b1 => ⟨rfl, b1⟩)

theorem dX8_latest_0 : decode cX8_latest 0 = .ok (.aload_n 0, 1) := by decide +kernel
theorem dX8_latest_1 : decode cX8_latest 1 = .ok (.iload_n 1, 1) := by decide +kernel
theorem dX8_latest_2 : decode cX8_latest 2 = .ok (.iconst 4, 1) := by decide +kernel
theorem dX8_latest_3 : decode cX8_latest 3 = .ok (.invokevirtual 198, 3) := by decide +kernel
theorem dX8_latest_6 : decode cX8_latest 6 = .ok (.ireturn, 1) := by decide +kernel
set_option maxRecDepth 20000 in
theorem s_X8_latest_0 {l : Launch} {G : GT} {d : Nat} {Q : AV → AH → Prop} {H : AH} {a0 x1 : Int} {M : Row} (hW : MW H a0 M) (h : ∀ H1 : AH, pbW a0 M (1 - bi (decide (fl M x1))) H H1 → Q (vI (vTold M x1 4)) H1) (hd : 2 ≤ d := by omega) : AW l G mX8_latest (d + 1) 0 0 Q 0 [vR a0, vI x1] [] 0 0 H := by
  refine a_aload_n dX8_latest_0 rfl rfl ?_
  refine a_iload_n dX8_latest_1 rfl rfl ?_
  refine a_iconst dX8_latest_2 ⟨by decide, by decide⟩ ?_
  refine a_callV dX8_latest_3 cw_X8_latest_3 (as := [vI x1, vI 4]) rfl rfl (kMod_0 hW.1) (Nat.le_refl _) (Nat.le_of_ble_eq_true rfl) (nocov rfl) (Nat.le_of_ble_eq_true rfl) (Nat.le_of_ble_eq_true rfl) (CL.mono (c_told (show MW H a0 M from ⟨hW.1, hW.2.1, hW.2.2⟩) (⟨by decide, by decide⟩)) (fun r9 H1 h9 => ?_))
  obtain ⟨e9, hB_H1⟩ := h9
  rw [e9]
  replace h := h H1 hB_H1
  show AW l G mX8_latest (d + 1) 0 0 Q 6 [vR a0, vI x1] [vI (vTold M x1 4)] 0 0 H1
  exact a_iret dX8_latest_6 rfl (Nat.le_of_ble_eq_true rfl) (Nat.le_of_ble_eq_true rfl) h

theorem c_latest {l : Launch} {G : GT} {d : Nat} {H : AH} {a : Int} {M : Row} {f : Int} (hW : MW H a M) (hd : 3 ≤ d := by omega) : CL l G mX8_latest d 0 0 [vR a, vI f] H (pubP a M (vI (vTold M f 4)) (1 - bi (decide (fl M f))) H) := by
  obtain ⟨d, rfl⟩ : ∃ k, d = k + 1 := ⟨d - 1, by omega⟩
  exact CL.of (by decide) rfl (Nat.le_of_ble_eq_true rfl) (s_X8_latest_0 hW fun H1 b1 => ⟨rfl, b1⟩)

theorem dX8_runwayOf_0 : decode cX8_runwayOf 0 = .ok (.aload_n 0, 1) := by decide +kernel
theorem dX8_runwayOf_1 : decode cX8_runwayOf 1 = .ok (.iload_n 1, 1) := by decide +kernel
theorem dX8_runwayOf_2 : decode cX8_runwayOf 2 = .ok (.bipush 6, 2) := by decide +kernel
theorem dX8_runwayOf_4 : decode cX8_runwayOf 4 = .ok (.invokevirtual 198, 3) := by decide +kernel
theorem dX8_runwayOf_7 : decode cX8_runwayOf 7 = .ok (.ireturn, 1) := by decide +kernel
set_option maxRecDepth 20000 in
theorem s_X8_runwayOf_0 {l : Launch} {G : GT} {d : Nat} {Q : AV → AH → Prop} {H : AH} {a0 x1 : Int} {M : Row} (hW : MW H a0 M) (h : ∀ H1 : AH, pbW a0 M (1 - bi (decide (fl M x1))) H H1 → Q (vI (vTold M x1 6)) H1) (hd : 2 ≤ d := by omega) : AW l G mX8_runwayOf (d + 1) 0 0 Q 0 [vR a0, vI x1] [] 0 0 H := by
  refine a_aload_n dX8_runwayOf_0 rfl rfl ?_
  refine a_iload_n dX8_runwayOf_1 rfl rfl ?_
  refine a_bipush dX8_runwayOf_2 (by decide) ?_
  refine a_callV dX8_runwayOf_4 cw_X8_runwayOf_4 (as := [vI x1, vI 6]) rfl rfl (kMod_0 hW.1) (Nat.le_refl _) (Nat.le_of_ble_eq_true rfl) (nocov rfl) (Nat.le_of_ble_eq_true rfl) (Nat.le_of_ble_eq_true rfl) (CL.mono (c_told (show MW H a0 M from ⟨hW.1, hW.2.1, hW.2.2⟩) (⟨by decide, by decide⟩)) (fun r9 H1 h9 => ?_))
  obtain ⟨e9, hB_H1⟩ := h9
  rw [e9]
  replace h := h H1 hB_H1
  show AW l G mX8_runwayOf (d + 1) 0 0 Q 7 [vR a0, vI x1] [vI (vTold M x1 6)] 0 0 H1
  exact a_iret dX8_runwayOf_7 rfl (Nat.le_of_ble_eq_true rfl) (Nat.le_of_ble_eq_true rfl) h

theorem c_runwayOf {l : Launch} {G : GT} {d : Nat} {H : AH} {a : Int} {M : Row} {f : Int} (hW : MW H a M) (hd : 3 ≤ d := by omega) : CL l G mX8_runwayOf d 0 0 [vR a, vI f] H (pubP a M (vI (vTold M f 6)) (1 - bi (decide (fl M f))) H) := by
  obtain ⟨d, rfl⟩ : ∃ k, d = k + 1 := ⟨d - 1, by omega⟩
  exact CL.of (by decide) rfl (Nat.le_of_ble_eq_true rfl) (s_X8_runwayOf_0 hW fun H1 b1 => ⟨rfl, b1⟩)

theorem dX8_stateOf_0 : decode cX8_stateOf 0 = .ok (.aload_n 0, 1) := by decide +kernel
theorem dX8_stateOf_1 : decode cX8_stateOf 1 = .ok (.iload_n 1, 1) := by decide +kernel
theorem dX8_stateOf_2 : decode cX8_stateOf 2 = .ok (.bipush 7, 2) := by decide +kernel
theorem dX8_stateOf_4 : decode cX8_stateOf 4 = .ok (.invokevirtual 198, 3) := by decide +kernel
theorem dX8_stateOf_7 : decode cX8_stateOf 7 = .ok (.ireturn, 1) := by decide +kernel
set_option maxRecDepth 20000 in
theorem s_X8_stateOf_0 {l : Launch} {G : GT} {d : Nat} {Q : AV → AH → Prop} {H : AH} {a0 x1 : Int} {M : Row} (hW : MW H a0 M) (h : ∀ H1 : AH, pbW a0 M (1 - bi (decide (fl M x1))) H H1 → Q (vI (vTold M x1 7)) H1) (hd : 2 ≤ d := by omega) : AW l G mX8_stateOf (d + 1) 0 0 Q 0 [vR a0, vI x1] [] 0 0 H := by
  refine a_aload_n dX8_stateOf_0 rfl rfl ?_
  refine a_iload_n dX8_stateOf_1 rfl rfl ?_
  refine a_bipush dX8_stateOf_2 (by decide) ?_
  refine a_callV dX8_stateOf_4 cw_X8_stateOf_4 (as := [vI x1, vI 7]) rfl rfl (kMod_0 hW.1) (Nat.le_refl _) (Nat.le_of_ble_eq_true rfl) (nocov rfl) (Nat.le_of_ble_eq_true rfl) (Nat.le_of_ble_eq_true rfl) (CL.mono (c_told (show MW H a0 M from ⟨hW.1, hW.2.1, hW.2.2⟩) (⟨by decide, by decide⟩)) (fun r9 H1 h9 => ?_))
  obtain ⟨e9, hB_H1⟩ := h9
  rw [e9]
  replace h := h H1 hB_H1
  show AW l G mX8_stateOf (d + 1) 0 0 Q 7 [vR a0, vI x1] [vI (vTold M x1 7)] 0 0 H1
  exact a_iret dX8_stateOf_7 rfl (Nat.le_of_ble_eq_true rfl) (Nat.le_of_ble_eq_true rfl) h

theorem c_stateOf {l : Launch} {G : GT} {d : Nat} {H : AH} {a : Int} {M : Row} {f : Int} (hW : MW H a M) (hd : 3 ≤ d := by omega) : CL l G mX8_stateOf d 0 0 [vR a, vI f] H (pubP a M (vI (vTold M f 7)) (1 - bi (decide (fl M f))) H) := by
  obtain ⟨d, rfl⟩ : ∃ k, d = k + 1 := ⟨d - 1, by omega⟩
  exact CL.of (by decide) rfl (Nat.le_of_ble_eq_true rfl) (s_X8_stateOf_0 hW fun H1 b1 => ⟨rfl, b1⟩)

theorem dX8_aroundCount_0 : decode cX8_aroundCount 0 = .ok (.aload_n 0, 1) := by decide +kernel
theorem dX8_aroundCount_1 : decode cX8_aroundCount 1 = .ok (.iload_n 1, 1) := by decide +kernel
theorem dX8_aroundCount_2 : decode cX8_aroundCount 2 = .ok (.bipush 9, 2) := by decide +kernel
theorem dX8_aroundCount_4 : decode cX8_aroundCount 4 = .ok (.invokevirtual 198, 3) := by decide +kernel
theorem dX8_aroundCount_7 : decode cX8_aroundCount 7 = .ok (.ireturn, 1) := by decide +kernel
set_option maxRecDepth 20000 in
theorem s_X8_aroundCount_0 {l : Launch} {G : GT} {d : Nat} {Q : AV → AH → Prop} {H : AH} {a0 x1 : Int} {M : Row} (hW : MW H a0 M) (h : ∀ H1 : AH, pbW a0 M (1 - bi (decide (fl M x1))) H H1 → Q (vI (vTold M x1 9)) H1) (hd : 2 ≤ d := by omega) : AW l G mX8_aroundCount (d + 1) 0 0 Q 0 [vR a0, vI x1] [] 0 0 H := by
  refine a_aload_n dX8_aroundCount_0 rfl rfl ?_
  refine a_iload_n dX8_aroundCount_1 rfl rfl ?_
  refine a_bipush dX8_aroundCount_2 (by decide) ?_
  refine a_callV dX8_aroundCount_4 cw_X8_aroundCount_4 (as := [vI x1, vI 9]) rfl rfl (kMod_0 hW.1) (Nat.le_refl _) (Nat.le_of_ble_eq_true rfl) (nocov rfl) (Nat.le_of_ble_eq_true rfl) (Nat.le_of_ble_eq_true rfl) (CL.mono (c_told (show MW H a0 M from ⟨hW.1, hW.2.1, hW.2.2⟩) (⟨by decide, by decide⟩)) (fun r9 H1 h9 => ?_))
  obtain ⟨e9, hB_H1⟩ := h9
  rw [e9]
  replace h := h H1 hB_H1
  show AW l G mX8_aroundCount (d + 1) 0 0 Q 7 [vR a0, vI x1] [vI (vTold M x1 9)] 0 0 H1
  exact a_iret dX8_aroundCount_7 rfl (Nat.le_of_ble_eq_true rfl) (Nat.le_of_ble_eq_true rfl) h

theorem c_aroundCount {l : Launch} {G : GT} {d : Nat} {H : AH} {a : Int} {M : Row} {f : Int} (hW : MW H a M) (hd : 3 ≤ d := by omega) : CL l G mX8_aroundCount d 0 0 [vR a, vI f] H (pubP a M (vI (vTold M f 9)) (1 - bi (decide (fl M f))) H) := by
  obtain ⟨d, rfl⟩ : ∃ k, d = k + 1 := ⟨d - 1, by omega⟩
  exact CL.of (by decide) rfl (Nat.le_of_ble_eq_true rfl) (s_X8_aroundCount_0 hW fun H1 b1 => ⟨rfl, b1⟩)

theorem dX8_isArrival_0 : decode cX8_isArrival 0 = .ok (.aload_n 0, 1) := by decide +kernel
theorem dX8_isArrival_1 : decode cX8_isArrival 1 = .ok (.iload_n 1, 1) := by decide +kernel
theorem dX8_isArrival_2 : decode cX8_isArrival 2 = .ok (.iconst 0, 1) := by decide +kernel
theorem dX8_isArrival_3 : decode cX8_isArrival 3 = .ok (.invokevirtual 198, 3) := by decide +kernel
theorem dX8_isArrival_6 : decode cX8_isArrival 6 = .ok (.iconst 1, 1) := by decide +kernel
theorem dX8_isArrival_7 : decode cX8_isArrival 7 = .ok (.if_icmp .ne 7, 3) := by decide +kernel
theorem dX8_isArrival_10 : decode cX8_isArrival 10 = .ok (.iconst 1, 1) := by decide +kernel
theorem dX8_isArrival_11 : decode cX8_isArrival 11 = .ok (.goto 4, 3) := by decide +kernel
theorem dX8_isArrival_14 : decode cX8_isArrival 14 = .ok (.iconst 0, 1) := by decide +kernel
theorem dX8_isArrival_15 : decode cX8_isArrival 15 = .ok (.ireturn, 1) := by decide +kernel
set_option maxRecDepth 20000 in
theorem s_X8_isArrival_0 {l : Launch} {G : GT} {d : Nat} {Q : AV → AH → Prop} {H : AH} {a0 x1 : Int} {M : Row} (hW : MW H a0 M) (h : ∀ H1 : AH, pbW a0 M (1 - bi (decide (fl M x1))) H H1 → (¬ (vTold M x1 0) = 1 → Q (vI 0) H1) ∧ ((vTold M x1 0) = 1 → Q (vI 1) H1)) (hd : 2 ≤ d := by omega) : AW l G mX8_isArrival (d + 1) 0 0 Q 0 [vR a0, vI x1] [] 0 0 H := by
  refine a_aload_n dX8_isArrival_0 rfl rfl ?_
  refine a_iload_n dX8_isArrival_1 rfl rfl ?_
  refine a_iconst dX8_isArrival_2 ⟨by decide, by decide⟩ ?_
  refine a_callV dX8_isArrival_3 cw_X8_isArrival_3 (as := [vI x1, vI 0]) rfl rfl (kMod_0 hW.1) (Nat.le_refl _) (Nat.le_of_ble_eq_true rfl) (nocov rfl) (Nat.le_of_ble_eq_true rfl) (Nat.le_of_ble_eq_true rfl) (CL.mono (c_told (show MW H a0 M from ⟨hW.1, hW.2.1, hW.2.2⟩) (⟨by decide, by decide⟩)) (fun r9 H1 h9 => ?_))
  obtain ⟨e9, hB_H1⟩ := h9
  rw [e9]
  replace h := h H1 hB_H1
  show AW l G mX8_isArrival (d + 1) 0 0 Q 6 [vR a0, vI x1] [vI (vTold M x1 0)] 0 0 H1
  refine a_iconst dX8_isArrival_6 ⟨by decide, by decide⟩ ?_
  refine a_icmp_ne dX8_isArrival_7 (tgt := 14) rfl (fun c7 => ?_) (fun c7 => ?_)
  · replace h := h.1 c7
    refine a_iconst dX8_isArrival_14 ⟨by decide, by decide⟩ ?_
    exact a_zret dX8_isArrival_15 rfl (by decide) (Nat.le_of_ble_eq_true rfl) (Nat.le_of_ble_eq_true rfl) h
  · replace h := h.2 c7
    refine a_iconst dX8_isArrival_10 ⟨by decide, by decide⟩ ?_
    refine a_goto dX8_isArrival_11 (tgt := 15) rfl ?_
    exact a_zret dX8_isArrival_15 rfl (by decide) (Nat.le_of_ble_eq_true rfl) (Nat.le_of_ble_eq_true rfl) h

theorem c_isArrival {l : Launch} {G : GT} {d : Nat} {H : AH} {a : Int} {M : Row} {f : Int} (hW : MW H a M) (hd : 3 ≤ d := by omega) : CL l G mX8_isArrival d 0 0 [vR a, vI f] H (pubP a M (vI (bi (decide (vTold M f 0 = 1)))) (1 - bi (decide (fl M f))) H) := by
  obtain ⟨d, rfl⟩ : ∃ k, d = k + 1 := ⟨d - 1, by omega⟩
  exact CL.of (by decide) rfl (Nat.le_of_ble_eq_true rfl) (s_X8_isArrival_0 hW fun H1 b1 => ⟨fun c => ⟨by rw [bi_f c], b1⟩, fun c => ⟨by rw [bi_t c], b1⟩⟩)

theorem dX8_runwayCount_0 : decode cX8_runwayCount 0 = .ok (.aload_n 0, 1) := by decide +kernel
theorem dX8_runwayCount_1 : decode cX8_runwayCount 1 = .ok (.iconst 0, 1) := by decide +kernel
theorem dX8_runwayCount_2 : decode cX8_runwayCount 2 = .ok (.putfield 55, 3) := by decide +kernel
theorem dX8_runwayCount_5 : decode cX8_runwayCount 5 = .ok (.aload_n 0, 1) := by decide +kernel
theorem dX8_runwayCount_6 : decode cX8_runwayCount 6 = .ok (.getfield 9, 3) := by decide +kernel
theorem dX8_runwayCount_9 : decode cX8_runwayCount 9 = .ok (.iconst 5, 1) := by decide +kernel
theorem dX8_runwayCount_10 : decode cX8_runwayCount 10 = .ok (.iaload, 1) := by decide +kernel
theorem dX8_runwayCount_11 : decode cX8_runwayCount 11 = .ok (.ireturn, 1) := by decide +kernel
set_option maxRecDepth 20000 in
theorem s_X8_runwayCount_0 {l : Launch} {G : GT} {d : Nat} {Q : AV → AH → Prop} {H : AH} {a0 : Int} {M : Row} (hW : MW H a0 M) (h : ∀ H1 : AH, H1 = hs H a0 5 0 → Q (vI (M 5)) H1) : AW l G mX8_runwayCount d 0 0 Q 0 [vR a0] [] 0 0 H := by
  refine a_aload_n dX8_runwayCount_0 rfl rfl ?_
  refine a_iconst dX8_runwayCount_1 ⟨by decide, by decide⟩ ?_
  refine a_putI dX8_runwayCount_2 fp_RX8_55 rfl rfl (kMod_0 hW.1) ?_
  have h_r0_1 := Lay.wr hW.1 ok_Mod (nrf_fld 5 (kMod_0 hW.1) (by decide) (by decide)) (i := 5) (x := 0)
  generalize e_H1 : hs H a0 5 0 = H1 at h_r0_1 ⊢
  replace h := h H1 e_H1.symm
  have row_H1 := (show rowM H1 a0 = _ from by rw [← e_H1, rowM_ne (by omega), hW.2.1])
  have mk_H1 := (show okM _ ∧ mkd H1 a0 from by rw [← e_H1]; exact ⟨hW.2.2.1, mkd_wr hW.2.2.2 (by omega) (by omega) (by omega)⟩)
  refine a_aload_n dX8_runwayCount_5 rfl rfl ?_
  refine a_getR dX8_runwayCount_6 fw_RX8_9 rfl rfl (kMod_0 h_r0_1) (rMod_0_0 h_r0_1) ?_
  refine a_iconst dX8_runwayCount_9 ⟨by decide, by decide⟩ ?_
  refine b_ialdV dX8_runwayCount_10 (kMod_1 h_r0_1) (nMod_1 h_r0_1) (⟨by decide, by decide⟩) (congrFun row_H1 _) ?_
  exact a_iret dX8_runwayCount_11 rfl (Nat.le_of_ble_eq_true rfl) (Nat.le_of_ble_eq_true rfl) h

theorem c_runwayCount {l : Launch} {G : GT} {d : Nat} {H : AH} {a : Int} {M : Row} (hW : MW H a M) : CL l G mX8_runwayCount d 0 0 [vR a] H (pubP a M (vI (M 5)) 0 H) :=
  CL.of (by decide) rfl (Nat.le_of_ble_eq_true rfl) (s_X8_runwayCount_0 hW fun H1 e1 => ⟨rfl, pb1 hW e1⟩)

theorem dX8_flightCount_0 : decode cX8_flightCount 0 = .ok (.aload_n 0, 1) := by decide +kernel
theorem dX8_flightCount_1 : decode cX8_flightCount 1 = .ok (.iconst 0, 1) := by decide +kernel
theorem dX8_flightCount_2 : decode cX8_flightCount 2 = .ok (.putfield 55, 3) := by decide +kernel
theorem dX8_flightCount_5 : decode cX8_flightCount 5 = .ok (.aload_n 0, 1) := by decide +kernel
theorem dX8_flightCount_6 : decode cX8_flightCount 6 = .ok (.getfield 9, 3) := by decide +kernel
theorem dX8_flightCount_9 : decode cX8_flightCount 9 = .ok (.bipush 6, 2) := by decide +kernel
theorem dX8_flightCount_11 : decode cX8_flightCount 11 = .ok (.iaload, 1) := by decide +kernel
theorem dX8_flightCount_12 : decode cX8_flightCount 12 = .ok (.ireturn, 1) := by decide +kernel
set_option maxRecDepth 20000 in
theorem s_X8_flightCount_0 {l : Launch} {G : GT} {d : Nat} {Q : AV → AH → Prop} {H : AH} {a0 : Int} {M : Row} (hW : MW H a0 M) (h : ∀ H1 : AH, H1 = hs H a0 5 0 → Q (vI (M 6)) H1) : AW l G mX8_flightCount d 0 0 Q 0 [vR a0] [] 0 0 H := by
  refine a_aload_n dX8_flightCount_0 rfl rfl ?_
  refine a_iconst dX8_flightCount_1 ⟨by decide, by decide⟩ ?_
  refine a_putI dX8_flightCount_2 fp_RX8_55 rfl rfl (kMod_0 hW.1) ?_
  have h_r0_1 := Lay.wr hW.1 ok_Mod (nrf_fld 5 (kMod_0 hW.1) (by decide) (by decide)) (i := 5) (x := 0)
  generalize e_H1 : hs H a0 5 0 = H1 at h_r0_1 ⊢
  replace h := h H1 e_H1.symm
  have row_H1 := (show rowM H1 a0 = _ from by rw [← e_H1, rowM_ne (by omega), hW.2.1])
  have mk_H1 := (show okM _ ∧ mkd H1 a0 from by rw [← e_H1]; exact ⟨hW.2.2.1, mkd_wr hW.2.2.2 (by omega) (by omega) (by omega)⟩)
  refine a_aload_n dX8_flightCount_5 rfl rfl ?_
  refine a_getR dX8_flightCount_6 fw_RX8_9 rfl rfl (kMod_0 h_r0_1) (rMod_0_0 h_r0_1) ?_
  refine a_bipush dX8_flightCount_9 (by decide) ?_
  refine b_ialdV dX8_flightCount_11 (kMod_1 h_r0_1) (nMod_1 h_r0_1) (⟨by decide, by decide⟩) (congrFun row_H1 _) ?_
  exact a_iret dX8_flightCount_12 rfl (Nat.le_of_ble_eq_true rfl) (Nat.le_of_ble_eq_true rfl) h

theorem c_flightCount {l : Launch} {G : GT} {d : Nat} {H : AH} {a : Int} {M : Row} (hW : MW H a M) : CL l G mX8_flightCount d 0 0 [vR a] H (pubP a M (vI (M 6)) 0 H) :=
  CL.of (by decide) rfl (Nat.le_of_ble_eq_true rfl) (s_X8_flightCount_0 hW fun H1 e1 => ⟨rfl, pb1 hW e1⟩)

theorem dX8_now_0 : decode cX8_now 0 = .ok (.aload_n 0, 1) := by decide +kernel
theorem dX8_now_1 : decode cX8_now 1 = .ok (.iconst 0, 1) := by decide +kernel
theorem dX8_now_2 : decode cX8_now 2 = .ok (.putfield 55, 3) := by decide +kernel
theorem dX8_now_5 : decode cX8_now 5 = .ok (.aload_n 0, 1) := by decide +kernel
theorem dX8_now_6 : decode cX8_now 6 = .ok (.getfield 9, 3) := by decide +kernel
theorem dX8_now_9 : decode cX8_now 9 = .ok (.iconst 0, 1) := by decide +kernel
theorem dX8_now_10 : decode cX8_now 10 = .ok (.iaload, 1) := by decide +kernel
theorem dX8_now_11 : decode cX8_now 11 = .ok (.ireturn, 1) := by decide +kernel
set_option maxRecDepth 20000 in
theorem s_X8_now_0 {l : Launch} {G : GT} {d : Nat} {Q : AV → AH → Prop} {H : AH} {a0 : Int} {M : Row} (hW : MW H a0 M) (h : ∀ H1 : AH, H1 = hs H a0 5 0 → Q (vI (M 0)) H1) : AW l G mX8_now d 0 0 Q 0 [vR a0] [] 0 0 H := by
  refine a_aload_n dX8_now_0 rfl rfl ?_
  refine a_iconst dX8_now_1 ⟨by decide, by decide⟩ ?_
  refine a_putI dX8_now_2 fp_RX8_55 rfl rfl (kMod_0 hW.1) ?_
  have h_r0_1 := Lay.wr hW.1 ok_Mod (nrf_fld 5 (kMod_0 hW.1) (by decide) (by decide)) (i := 5) (x := 0)
  generalize e_H1 : hs H a0 5 0 = H1 at h_r0_1 ⊢
  replace h := h H1 e_H1.symm
  have row_H1 := (show rowM H1 a0 = _ from by rw [← e_H1, rowM_ne (by omega), hW.2.1])
  have mk_H1 := (show okM _ ∧ mkd H1 a0 from by rw [← e_H1]; exact ⟨hW.2.2.1, mkd_wr hW.2.2.2 (by omega) (by omega) (by omega)⟩)
  refine a_aload_n dX8_now_5 rfl rfl ?_
  refine a_getR dX8_now_6 fw_RX8_9 rfl rfl (kMod_0 h_r0_1) (rMod_0_0 h_r0_1) ?_
  refine a_iconst dX8_now_9 ⟨by decide, by decide⟩ ?_
  refine b_ialdV dX8_now_10 (kMod_1 h_r0_1) (nMod_1 h_r0_1) (⟨by decide, by decide⟩) (congrFun row_H1 _) ?_
  exact a_iret dX8_now_11 rfl (Nat.le_of_ble_eq_true rfl) (Nat.le_of_ble_eq_true rfl) h

theorem c_now {l : Launch} {G : GT} {d : Nat} {H : AH} {a : Int} {M : Row} (hW : MW H a M) : CL l G mX8_now d 0 0 [vR a] H (pubP a M (vI (M 0)) 0 H) :=
  CL.of (by decide) rfl (Nat.le_of_ble_eq_true rfl) (s_X8_now_0 hW fun H1 e1 => ⟨rfl, pb1 hW e1⟩)

theorem dX8_shift_0 : decode cX8_shift 0 = .ok (.aload_n 0, 1) := by decide +kernel
theorem dX8_shift_1 : decode cX8_shift 1 = .ok (.iconst 0, 1) := by decide +kernel
theorem dX8_shift_2 : decode cX8_shift 2 = .ok (.putfield 55, 3) := by decide +kernel
theorem dX8_shift_5 : decode cX8_shift 5 = .ok (.aload_n 0, 1) := by decide +kernel
theorem dX8_shift_6 : decode cX8_shift 6 = .ok (.getfield 9, 3) := by decide +kernel
theorem dX8_shift_9 : decode cX8_shift 9 = .ok (.iconst 1, 1) := by decide +kernel
theorem dX8_shift_10 : decode cX8_shift 10 = .ok (.iaload, 1) := by decide +kernel
theorem dX8_shift_11 : decode cX8_shift 11 = .ok (.ireturn, 1) := by decide +kernel
set_option maxRecDepth 20000 in
theorem s_X8_shift_0 {l : Launch} {G : GT} {d : Nat} {Q : AV → AH → Prop} {H : AH} {a0 : Int} {M : Row} (hW : MW H a0 M) (h : ∀ H1 : AH, H1 = hs H a0 5 0 → Q (vI (M 1)) H1) : AW l G mX8_shift d 0 0 Q 0 [vR a0] [] 0 0 H := by
  refine a_aload_n dX8_shift_0 rfl rfl ?_
  refine a_iconst dX8_shift_1 ⟨by decide, by decide⟩ ?_
  refine a_putI dX8_shift_2 fp_RX8_55 rfl rfl (kMod_0 hW.1) ?_
  have h_r0_1 := Lay.wr hW.1 ok_Mod (nrf_fld 5 (kMod_0 hW.1) (by decide) (by decide)) (i := 5) (x := 0)
  generalize e_H1 : hs H a0 5 0 = H1 at h_r0_1 ⊢
  replace h := h H1 e_H1.symm
  have row_H1 := (show rowM H1 a0 = _ from by rw [← e_H1, rowM_ne (by omega), hW.2.1])
  have mk_H1 := (show okM _ ∧ mkd H1 a0 from by rw [← e_H1]; exact ⟨hW.2.2.1, mkd_wr hW.2.2.2 (by omega) (by omega) (by omega)⟩)
  refine a_aload_n dX8_shift_5 rfl rfl ?_
  refine a_getR dX8_shift_6 fw_RX8_9 rfl rfl (kMod_0 h_r0_1) (rMod_0_0 h_r0_1) ?_
  refine a_iconst dX8_shift_9 ⟨by decide, by decide⟩ ?_
  refine b_ialdV dX8_shift_10 (kMod_1 h_r0_1) (nMod_1 h_r0_1) (⟨by decide, by decide⟩) (congrFun row_H1 _) ?_
  exact a_iret dX8_shift_11 rfl (Nat.le_of_ble_eq_true rfl) (Nat.le_of_ble_eq_true rfl) h

theorem c_shift {l : Launch} {G : GT} {d : Nat} {H : AH} {a : Int} {M : Row} (hW : MW H a M) : CL l G mX8_shift d 0 0 [vR a] H (pubP a M (vI (M 1)) 0 H) :=
  CL.of (by decide) rfl (Nat.le_of_ble_eq_true rfl) (s_X8_shift_0 hW fun H1 e1 => ⟨rfl, pb1 hW e1⟩)

theorem dX8_doneCount_0 : decode cX8_doneCount 0 = .ok (.aload_n 0, 1) := by decide +kernel
theorem dX8_doneCount_1 : decode cX8_doneCount 1 = .ok (.iconst 0, 1) := by decide +kernel
theorem dX8_doneCount_2 : decode cX8_doneCount 2 = .ok (.putfield 55, 3) := by decide +kernel
theorem dX8_doneCount_5 : decode cX8_doneCount 5 = .ok (.aload_n 0, 1) := by decide +kernel
theorem dX8_doneCount_6 : decode cX8_doneCount 6 = .ok (.getfield 9, 3) := by decide +kernel
theorem dX8_doneCount_9 : decode cX8_doneCount 9 = .ok (.bipush 7, 2) := by decide +kernel
theorem dX8_doneCount_11 : decode cX8_doneCount 11 = .ok (.iaload, 1) := by decide +kernel
theorem dX8_doneCount_12 : decode cX8_doneCount 12 = .ok (.ireturn, 1) := by decide +kernel
set_option maxRecDepth 20000 in
theorem s_X8_doneCount_0 {l : Launch} {G : GT} {d : Nat} {Q : AV → AH → Prop} {H : AH} {a0 : Int} {M : Row} (hW : MW H a0 M) (h : ∀ H1 : AH, H1 = hs H a0 5 0 → Q (vI (M 7)) H1) : AW l G mX8_doneCount d 0 0 Q 0 [vR a0] [] 0 0 H := by
  refine a_aload_n dX8_doneCount_0 rfl rfl ?_
  refine a_iconst dX8_doneCount_1 ⟨by decide, by decide⟩ ?_
  refine a_putI dX8_doneCount_2 fp_RX8_55 rfl rfl (kMod_0 hW.1) ?_
  have h_r0_1 := Lay.wr hW.1 ok_Mod (nrf_fld 5 (kMod_0 hW.1) (by decide) (by decide)) (i := 5) (x := 0)
  generalize e_H1 : hs H a0 5 0 = H1 at h_r0_1 ⊢
  replace h := h H1 e_H1.symm
  have row_H1 := (show rowM H1 a0 = _ from by rw [← e_H1, rowM_ne (by omega), hW.2.1])
  have mk_H1 := (show okM _ ∧ mkd H1 a0 from by rw [← e_H1]; exact ⟨hW.2.2.1, mkd_wr hW.2.2.2 (by omega) (by omega) (by omega)⟩)
  refine a_aload_n dX8_doneCount_5 rfl rfl ?_
  refine a_getR dX8_doneCount_6 fw_RX8_9 rfl rfl (kMod_0 h_r0_1) (rMod_0_0 h_r0_1) ?_
  refine a_bipush dX8_doneCount_9 (by decide) ?_
  refine b_ialdV dX8_doneCount_11 (kMod_1 h_r0_1) (nMod_1 h_r0_1) (⟨by decide, by decide⟩) (congrFun row_H1 _) ?_
  exact a_iret dX8_doneCount_12 rfl (Nat.le_of_ble_eq_true rfl) (Nat.le_of_ble_eq_true rfl) h

theorem c_doneCount {l : Launch} {G : GT} {d : Nat} {H : AH} {a : Int} {M : Row} (hW : MW H a M) : CL l G mX8_doneCount d 0 0 [vR a] H (pubP a M (vI (M 7)) 0 H) :=
  CL.of (by decide) rfl (Nat.le_of_ble_eq_true rfl) (s_X8_doneCount_0 hW fun H1 e1 => ⟨rfl, pb1 hW e1⟩)

theorem dX8_loadError_0 : decode cX8_loadError 0 = .ok (.aload_n 0, 1) := by decide +kernel
theorem dX8_loadError_1 : decode cX8_loadError 1 = .ok (.iconst 0, 1) := by decide +kernel
theorem dX8_loadError_2 : decode cX8_loadError 2 = .ok (.putfield 55, 3) := by decide +kernel
theorem dX8_loadError_5 : decode cX8_loadError 5 = .ok (.aload_n 0, 1) := by decide +kernel
theorem dX8_loadError_6 : decode cX8_loadError 6 = .ok (.getfield 188, 3) := by decide +kernel
theorem dX8_loadError_9 : decode cX8_loadError 9 = .ok (.ireturn, 1) := by decide +kernel
set_option maxRecDepth 20000 in
theorem s_X8_loadError_0 {l : Launch} {G : GT} {d : Nat} {Q : AV → AH → Prop} {H : AH} {a0 : Int} {M : Row} (hW : MW H a0 M) (h : ∀ H1 : AH, H1 = hs H a0 5 0 → Q (vI (hg H1 a0 12)) H1) : AW l G mX8_loadError d 0 0 Q 0 [vR a0] [] 0 0 H := by
  refine a_aload_n dX8_loadError_0 rfl rfl ?_
  refine a_iconst dX8_loadError_1 ⟨by decide, by decide⟩ ?_
  refine a_putI dX8_loadError_2 fp_RX8_55 rfl rfl (kMod_0 hW.1) ?_
  have h_r0_1 := Lay.wr hW.1 ok_Mod (nrf_fld 5 (kMod_0 hW.1) (by decide) (by decide)) (i := 5) (x := 0)
  generalize e_H1 : hs H a0 5 0 = H1 at h_r0_1 ⊢
  replace h := h H1 e_H1.symm
  have row_H1 := (show rowM H1 a0 = _ from by rw [← e_H1, rowM_ne (by omega), hW.2.1])
  have mk_H1 := (show okM _ ∧ mkd H1 a0 from by rw [← e_H1]; exact ⟨hW.2.2.1, mkd_wr hW.2.2.2 (by omega) (by omega) (by omega)⟩)
  refine a_aload_n dX8_loadError_5 rfl rfl ?_
  refine a_getI dX8_loadError_6 fw_RX8_188 rfl rfl (kMod_0 h_r0_1) ?_
  exact a_iret dX8_loadError_9 rfl (Nat.le_of_ble_eq_true rfl) (Nat.le_of_ble_eq_true rfl) h

theorem c_loadError {l : Launch} {G : GT} {d : Nat} {H : AH} {a : Int} {M : Row} (hW : MW H a M) : CL l G mX8_loadError d 0 0 [vR a] H (pubP a M (vI (hg H a 12)) 0 H) :=
  CL.of (by decide) rfl (Nat.le_of_ble_eq_true rfl) (s_X8_loadError_0 hW fun H1 e1 => ⟨by rw [e1, hg_ne H (Or.inr (by decide))], pb1 hW e1⟩)

theorem dX8_isAhead_0 : decode cX8_isAhead 0 = .ok (.iload_n 1, 1) := by decide +kernel
theorem dX8_isAhead_1 : decode cX8_isAhead 1 = .ok (.iload_n 2, 1) := by decide +kernel
theorem dX8_isAhead_2 : decode cX8_isAhead 2 = .ok (.if_icmp .eq 28, 3) := by decide +kernel
theorem dX8_isAhead_5 : decode cX8_isAhead 5 = .ok (.aload_n 0, 1) := by decide +kernel
theorem dX8_isAhead_6 : decode cX8_isAhead 6 = .ok (.iload_n 1, 1) := by decide +kernel
theorem dX8_isAhead_7 : decode cX8_isAhead 7 = .ok (.invokevirtual 267, 3) := by decide +kernel
theorem dX8_isAhead_10 : decode cX8_isAhead 10 = .ok (.ifCond .eq 20, 3) := by decide +kernel
theorem dX8_isAhead_13 : decode cX8_isAhead 13 = .ok (.aload_n 0, 1) := by decide +kernel
theorem dX8_isAhead_14 : decode cX8_isAhead 14 = .ok (.iload_n 1, 1) := by decide +kernel
theorem dX8_isAhead_15 : decode cX8_isAhead 15 = .ok (.bipush 6, 2) := by decide +kernel
theorem dX8_isAhead_17 : decode cX8_isAhead 17 = .ok (.invokevirtual 75, 3) := by decide +kernel
theorem dX8_isAhead_20 : decode cX8_isAhead 20 = .ok (.aload_n 0, 1) := by decide +kernel
theorem dX8_isAhead_21 : decode cX8_isAhead 21 = .ok (.iload_n 2, 1) := by decide +kernel
theorem dX8_isAhead_22 : decode cX8_isAhead 22 = .ok (.bipush 6, 2) := by decide +kernel
theorem dX8_isAhead_24 : decode cX8_isAhead 24 = .ok (.invokevirtual 75, 3) := by decide +kernel
theorem dX8_isAhead_27 : decode cX8_isAhead 27 = .ok (.if_icmp .eq 5, 3) := by decide +kernel
theorem dX8_isAhead_30 : decode cX8_isAhead 30 = .ok (.iconst 0, 1) := by decide +kernel
theorem dX8_isAhead_31 : decode cX8_isAhead 31 = .ok (.ireturn, 1) := by decide +kernel
theorem dX8_isAhead_32 : decode cX8_isAhead 32 = .ok (.aload_n 0, 1) := by decide +kernel
theorem dX8_isAhead_33 : decode cX8_isAhead 33 = .ok (.iload_n 1, 1) := by decide +kernel
theorem dX8_isAhead_34 : decode cX8_isAhead 34 = .ok (.invokevirtual 264, 3) := by decide +kernel
theorem dX8_isAhead_37 : decode cX8_isAhead 37 = .ok (.ifCond .eq 24, 3) := by decide +kernel
theorem dX8_isAhead_40 : decode cX8_isAhead 40 = .ok (.aload_n 0, 1) := by decide +kernel
theorem dX8_isAhead_41 : decode cX8_isAhead 41 = .ok (.aload_n 0, 1) := by decide +kernel
theorem dX8_isAhead_42 : decode cX8_isAhead 42 = .ok (.getfield 36, 3) := by decide +kernel
theorem dX8_isAhead_45 : decode cX8_isAhead 45 = .ok (.iload_n 1, 1) := by decide +kernel
theorem dX8_isAhead_46 : decode cX8_isAhead 46 = .ok (.invokevirtual 273, 3) := by decide +kernel
theorem dX8_isAhead_49 : decode cX8_isAhead 49 = .ok (.aload_n 0, 1) := by decide +kernel
theorem dX8_isAhead_50 : decode cX8_isAhead 50 = .ok (.aload_n 0, 1) := by decide +kernel
theorem dX8_isAhead_51 : decode cX8_isAhead 51 = .ok (.getfield 36, 3) := by decide +kernel
theorem dX8_isAhead_54 : decode cX8_isAhead 54 = .ok (.iload_n 2, 1) := by decide +kernel
theorem dX8_isAhead_55 : decode cX8_isAhead 55 = .ok (.invokevirtual 273, 3) := by decide +kernel
theorem dX8_isAhead_58 : decode cX8_isAhead 58 = .ok (.if_icmp .ge 7, 3) := by decide +kernel
theorem dX8_isAhead_61 : decode cX8_isAhead 61 = .ok (.iconst 1, 1) := by decide +kernel
theorem dX8_isAhead_62 : decode cX8_isAhead 62 = .ok (.goto 4, 3) := by decide +kernel
theorem dX8_isAhead_65 : decode cX8_isAhead 65 = .ok (.iconst 0, 1) := by decide +kernel
theorem dX8_isAhead_66 : decode cX8_isAhead 66 = .ok (.ireturn, 1) := by decide +kernel
set_option maxRecDepth 20000 in
theorem s_X8_isAhead_0 {l : Launch} {G : GT} {d : Nat} {Q : AV → AH → Prop} {H : AH} {a0 x1 x2 : Int} {M : Row} (hW : MW H a0 M) (h : (x1 = x2 → Q (vI 0) H) ∧ (¬ x1 = x2 → (0 ≤ x1 ∧ x1 < 24) ∧ (¬ (¬ ofM M x1 7 = 3) → Q (vI 0) H) ∧ (¬ ofM M x1 7 = 3 → (0 ≤ x2 ∧ x2 < 24) ∧ ((ofM M x1 6) = (ofM M x2 6) → (¬ (ofM M x1 7 = 0) → Q (vI 1) H) ∧ (ofM M x1 7 = 0 → (0 ≤ x1 ∧ x1 < M 6) ∧ (ofM M x1 7 = 0) ∧ ∀ H1 : AH, only H H1 (pMks a0) → MW H1 a0 M → Made H1 a0 M → (0 ≤ x2 ∧ x2 < M 6) ∧ (ofM M x2 7 = 0) ∧ ∀ H2 : AH, only H1 H2 (pMks a0) → MW H2 a0 M → Made H2 a0 M → ((ixOf (planL M (ofM M x2 6)) x2) ≤ (ixOf (planL M (ofM M x1 6)) x1) → Q (vI 0) H2) ∧ ((ixOf (planL M (ofM M x1 6)) x1) < (ixOf (planL M (ofM M x2 6)) x2) → Q (vI 1) H2))) ∧ (¬ (ofM M x1 6) = (ofM M x2 6) → Q (vI 0) H)))) (hd : 15 ≤ d := by omega) : AW l G mX8_isAhead (d + 1) 0 0 Q 0 [vR a0, vI x1, vI x2] [] 0 0 H := by
  refine a_iload_n dX8_isAhead_0 rfl rfl ?_
  refine a_iload_n dX8_isAhead_1 rfl rfl ?_
  refine a_icmp_eq dX8_isAhead_2 (tgt := 30) rfl (fun c2 => ?_) (fun c2 => ?_)
  · replace h := h.1 c2
    refine a_iconst dX8_isAhead_30 ⟨by decide, by decide⟩ ?_
    exact a_zret dX8_isAhead_31 rfl (by decide) (Nat.le_of_ble_eq_true rfl) (Nat.le_of_ble_eq_true rfl) h
  · replace h := h.2 c2
    refine a_aload_n dX8_isAhead_5 rfl rfl ?_
    refine a_iload_n dX8_isAhead_6 rfl rfl ?_
    obtain ⟨q7_0, h⟩ := h
    refine a_callV dX8_isAhead_7 cw_X8_isAhead_7 (as := [vI x1]) rfl rfl (kMod_0 hW.1) (Nat.le_refl _) (Nat.le_of_ble_eq_true rfl) (nocov rfl) (Nat.le_of_ble_eq_true rfl) (Nat.le_of_ble_eq_true rfl) (CL.mono (c_isThere hW.1 q7_0) (fun r9 H9 h9 => ?_))
    rw [h9.1, h9.2]
    (try rw [hW.2.1])
    show AW l G mX8_isAhead (d + 1) 0 0 Q 10 [vR a0, vI x1, vI x2] [vI (bi (decide (¬ ofM M x1 7 = 3)))] 0 0 H
    refine a_if_eq dX8_isAhead_10 (tgt := 30) rfl (fun c10 => ?_) (fun c10 => ?_)
    · replace h := h.1 (bi_0 c10)
      refine a_iconst dX8_isAhead_30 ⟨by decide, by decide⟩ ?_
      exact a_zret dX8_isAhead_31 rfl (by decide) (Nat.le_of_ble_eq_true rfl) (Nat.le_of_ble_eq_true rfl) h
    · replace h := h.2 (bi_1 c10)
      refine a_aload_n dX8_isAhead_13 rfl rfl ?_
      refine a_iload_n dX8_isAhead_14 rfl rfl ?_
      refine a_bipush dX8_isAhead_15 (by decide) ?_
      refine a_callV dX8_isAhead_17 cw_X8_isAhead_17 (as := [vI x1, vI 6]) rfl rfl (kMod_0 hW.1) (Nat.le_refl _) (Nat.le_of_ble_eq_true rfl) (nocov rfl) (Nat.le_of_ble_eq_true rfl) (Nat.le_of_ble_eq_true rfl) (CL.mono (c_of hW.1 ⟨q7_0.1, q7_0.2, by decide, by decide⟩) (fun r9 H9 h9 => ?_))
      rw [h9.1, h9.2]
      (try rw [hW.2.1])
      show AW l G mX8_isAhead (d + 1) 0 0 Q 20 [vR a0, vI x1, vI x2] [vI (ofM M x1 6)] 0 0 H
      refine a_aload_n dX8_isAhead_20 rfl rfl ?_
      refine a_iload_n dX8_isAhead_21 rfl rfl ?_
      refine a_bipush dX8_isAhead_22 (by decide) ?_
      obtain ⟨q24_0, h⟩ := h
      refine a_callV dX8_isAhead_24 cw_X8_isAhead_24 (as := [vI x2, vI 6]) rfl rfl (kMod_0 hW.1) (Nat.le_refl _) (Nat.le_of_ble_eq_true rfl) (nocov rfl) (Nat.le_of_ble_eq_true rfl) (Nat.le_of_ble_eq_true rfl) (CL.mono (c_of hW.1 ⟨q24_0.1, q24_0.2, by decide, by decide⟩) (fun r9 H9 h9 => ?_))
      rw [h9.1, h9.2]
      (try rw [hW.2.1])
      show AW l G mX8_isAhead (d + 1) 0 0 Q 27 [vR a0, vI x1, vI x2] [vI (ofM M x2 6), vI (ofM M x1 6)] 0 0 H
      refine a_icmp_eq dX8_isAhead_27 (tgt := 32) rfl (fun c27 => ?_) (fun c27 => ?_)
      · replace h := h.1 c27
        refine a_aload_n dX8_isAhead_32 rfl rfl ?_
        refine a_iload_n dX8_isAhead_33 rfl rfl ?_
        refine a_callV dX8_isAhead_34 cw_X8_isAhead_34 (as := [vI x1]) rfl rfl (kMod_0 hW.1) (Nat.le_refl _) (Nat.le_of_ble_eq_true rfl) (nocov rfl) (Nat.le_of_ble_eq_true rfl) (Nat.le_of_ble_eq_true rfl) (CL.mono (c_isPlanned hW.1 q7_0) (fun r9 H9 h9 => ?_))
        rw [h9.1, h9.2]
        (try rw [hW.2.1])
        show AW l G mX8_isAhead (d + 1) 0 0 Q 37 [vR a0, vI x1, vI x2] [vI (bi (decide (ofM M x1 7 = 0)))] 0 0 H
        refine a_if_eq dX8_isAhead_37 (tgt := 61) rfl (fun c37 => ?_) (fun c37 => ?_)
        · replace h := h.1 (bi_0 c37)
          refine a_iconst dX8_isAhead_61 ⟨by decide, by decide⟩ ?_
          refine a_goto dX8_isAhead_62 (tgt := 66) rfl ?_
          exact a_zret dX8_isAhead_66 rfl (by decide) (Nat.le_of_ble_eq_true rfl) (Nat.le_of_ble_eq_true rfl) h
        · replace h := h.2 (bi_1 c37)
          refine a_aload_n dX8_isAhead_40 rfl rfl ?_
          refine a_aload_n dX8_isAhead_41 rfl rfl ?_
          refine a_getR dX8_isAhead_42 fw_RX8_36 rfl rfl (kMod_0 hW.1) (rMod_0_16 hW.1) ?_
          refine a_iload_n dX8_isAhead_45 rfl rfl ?_
          obtain ⟨q46_0, h⟩ := h
          obtain ⟨q46_1, h⟩ := h
          refine a_callV dX8_isAhead_46 cw_X8_isAhead_46 (as := [vR (a0 + 9), vI x1]) rfl rfl (kMod_0 hW.1) (Nat.le_refl _) (Nat.le_of_ble_eq_true rfl) (nocov rfl) (Nat.le_of_ble_eq_true rfl) (Nat.le_of_ble_eq_true rfl) (CL.mono (c_placeInP (show MW H a0 M from ⟨hW.1, hW.2.1, hW.2.2⟩) q46_0 q46_1) (fun r9 H1 h9 => ?_))
          obtain ⟨e9, o_H1, hW_H1, hX_H1⟩ := h9
          rw [e9]
          replace h := h H1 o_H1 hW_H1 hX_H1
          show AW l G mX8_isAhead (d + 1) 0 0 Q 49 [vR a0, vI x1, vI x2] [vI (ixOf (planL M (ofM M x1 6)) x1)] 0 0 H1
          refine a_aload_n dX8_isAhead_49 rfl rfl ?_
          refine a_aload_n dX8_isAhead_50 rfl rfl ?_
          refine a_getR dX8_isAhead_51 fw_RX8_36 rfl rfl (kMod_0 hW_H1.1) (rMod_0_16 hW_H1.1) ?_
          refine a_iload_n dX8_isAhead_54 rfl rfl ?_
          obtain ⟨q55_0, h⟩ := h
          obtain ⟨q55_1, h⟩ := h
          refine a_callV dX8_isAhead_55 cw_X8_isAhead_55 (as := [vR (a0 + 9), vI x2]) rfl rfl (kMod_0 hW_H1.1) (Nat.le_refl _) (Nat.le_of_ble_eq_true rfl) (nocov rfl) (Nat.le_of_ble_eq_true rfl) (Nat.le_of_ble_eq_true rfl) (CL.mono (c_placeInP (show MW H1 a0 M from ⟨hW_H1.1, hW_H1.2.1, hW_H1.2.2⟩) q55_0 q55_1) (fun r9 H2 h9 => ?_))
          obtain ⟨e9, o_H2, hW_H2, hX_H2⟩ := h9
          rw [e9]
          replace h := h H2 o_H2 hW_H2 hX_H2
          show AW l G mX8_isAhead (d + 1) 0 0 Q 58 [vR a0, vI x1, vI x2] [vI (ixOf (planL M (ofM M x2 6)) x2), vI (ixOf (planL M (ofM M x1 6)) x1)] 0 0 H2
          refine a_icmp_ge dX8_isAhead_58 (tgt := 65) rfl (fun c58 => ?_) (fun c58 => ?_)
          · replace h := h.1 c58
            refine a_iconst dX8_isAhead_65 ⟨by decide, by decide⟩ ?_
            exact a_zret dX8_isAhead_66 rfl (by decide) (Nat.le_of_ble_eq_true rfl) (Nat.le_of_ble_eq_true rfl) h
          · replace h := h.2 c58
            refine a_iconst dX8_isAhead_61 ⟨by decide, by decide⟩ ?_
            refine a_goto dX8_isAhead_62 (tgt := 66) rfl ?_
            exact a_zret dX8_isAhead_66 rfl (by decide) (Nat.le_of_ble_eq_true rfl) (Nat.le_of_ble_eq_true rfl) h
      · replace h := h.2 c27
        refine a_iconst dX8_isAhead_30 ⟨by decide, by decide⟩ ?_
        exact a_zret dX8_isAhead_31 rfl (by decide) (Nat.le_of_ble_eq_true rfl) (Nat.le_of_ble_eq_true rfl) h

abbrev ahd (M : Row) (g f : Int) : Prop := ¬ g = f ∧ ¬ ofM M g 7 = 3 ∧ ofM M g 6 = ofM M f 6 ∧ (¬ ofM M g 7 = 0 ∨ ixOf (planL M (ofM M g 6)) g < ixOf (planL M (ofM M f 6)) f)
theorem c_isAhead {l : Launch} {G : GT} {d : Nat} {H : AH} {a : Int} {M : Row} {g f : Int} (hW : MW H a M) (hg0 : fl M g) (hf : fl M f) (hp : ofM M f 7 = 0) (hd : 16 ≤ d := by omega) : CL l G mX8_isAhead d 0 0 [vR a, vI g, vI f] H (qP a M (vI (bi (decide (ahd M g f)))) H) := by
  obtain ⟨d, rfl⟩ : ∃ k, d = k + 1 := ⟨d - 1, by omega⟩
  have hn := okM_n hW.2.2.1
  exact CL.of (by decide) rfl (Nat.le_of_ble_eq_true rfl) (s_X8_isAhead_0 hW ⟨fun c => ⟨by rw [bi_f (fun q => q.1 c)], only.rf, hW⟩, fun c => ⟨by omega, fun c2 => ⟨by rw [bi_f (fun q => c2 q.2.1)], only.rf, hW⟩, fun c2 => ⟨by omega, fun c3 => ⟨fun c4 => ⟨by rw [bi_t ⟨c, c2, c3, Or.inl c4⟩], only.rf, hW⟩, fun c4 => ⟨hg0, c4, fun H1 o1 w1 _ => ⟨hf, hp, fun H2 o2 w2 _ => ⟨fun c5 => ⟨by rw [bi_f (fun q => by rcases q.2.2.2 with q | q; exact q c4; omega)], o1.trans o2, w2⟩, fun c5 => ⟨by rw [bi_t ⟨c, c2, c3, Or.inr c5⟩], o1.trans o2, w2⟩⟩⟩⟩⟩, fun c3 => ⟨by rw [bi_f (fun q => c3 q.2.2.1)], only.rf, hW⟩⟩⟩⟩)

theorem dX8_binding_0 : decode cX8_binding 0 = .ok (.aload_n 0, 1) := by decide +kernel
theorem dX8_binding_1 : decode cX8_binding 1 = .ok (.iload_n 1, 1) := by decide +kernel
theorem dX8_binding_2 : decode cX8_binding 2 = .ok (.invokevirtual 71, 3) := by decide +kernel
theorem dX8_binding_5 : decode cX8_binding 5 = .ok (.ifCond .ne 5, 3) := by decide +kernel
theorem dX8_binding_8 : decode cX8_binding 8 = .ok (.iconst 0, 1) := by decide +kernel
theorem dX8_binding_9 : decode cX8_binding 9 = .ok (.ireturn, 1) := by decide +kernel
theorem dX8_binding_10 : decode cX8_binding 10 = .ok (.iconst 0, 1) := by decide +kernel
theorem dX8_binding_11 : decode cX8_binding 11 = .ok (.istore_n 2, 1) := by decide +kernel
theorem dX8_binding_12 : decode cX8_binding 12 = .ok (.aload_n 0, 1) := by decide +kernel
theorem dX8_binding_13 : decode cX8_binding 13 = .ok (.iload_n 1, 1) := by decide +kernel
theorem dX8_binding_14 : decode cX8_binding 14 = .ok (.invokevirtual 264, 3) := by decide +kernel
theorem dX8_binding_17 : decode cX8_binding 17 = .ok (.ifCond .eq 51, 3) := by decide +kernel
theorem dX8_binding_20 : decode cX8_binding 20 = .ok (.iload_n 2, 1) := by decide +kernel
theorem dX8_binding_21 : decode cX8_binding 21 = .ok (.aload_n 0, 1) := by decide +kernel
theorem dX8_binding_22 : decode cX8_binding 22 = .ok (.getfield 9, 3) := by decide +kernel
theorem dX8_binding_25 : decode cX8_binding 25 = .ok (.bipush 6, 2) := by decide +kernel
theorem dX8_binding_27 : decode cX8_binding 27 = .ok (.iaload, 1) := by decide +kernel
theorem dX8_binding_28 : decode cX8_binding 28 = .ok (.if_icmp .ge 40, 3) := by decide +kernel
theorem dX8_binding_31 : decode cX8_binding 31 = .ok (.aload_n 0, 1) := by decide +kernel
theorem dX8_binding_32 : decode cX8_binding 32 = .ok (.iload_n 2, 1) := by decide +kernel
theorem dX8_binding_33 : decode cX8_binding 33 = .ok (.iload_n 1, 1) := by decide +kernel
theorem dX8_binding_34 : decode cX8_binding 34 = .ok (.invokevirtual 311, 3) := by decide +kernel
theorem dX8_binding_37 : decode cX8_binding 37 = .ok (.ifCond .eq 25, 3) := by decide +kernel
theorem dX8_binding_40 : decode cX8_binding 40 = .ok (.aload_n 0, 1) := by decide +kernel
theorem dX8_binding_41 : decode cX8_binding 41 = .ok (.iload_n 2, 1) := by decide +kernel
theorem dX8_binding_42 : decode cX8_binding 42 = .ok (.invokevirtual 270, 3) := by decide +kernel
theorem dX8_binding_45 : decode cX8_binding 45 = .ok (.aload_n 0, 1) := by decide +kernel
theorem dX8_binding_46 : decode cX8_binding 46 = .ok (.iload_n 2, 1) := by decide +kernel
theorem dX8_binding_47 : decode cX8_binding 47 = .ok (.iload_n 1, 1) := by decide +kernel
theorem dX8_binding_48 : decode cX8_binding 48 = .ok (.invokevirtual 207, 3) := by decide +kernel
theorem dX8_binding_51 : decode cX8_binding 51 = .ok (.iadd, 1) := by decide +kernel
theorem dX8_binding_52 : decode cX8_binding 52 = .ok (.aload_n 0, 1) := by decide +kernel
theorem dX8_binding_53 : decode cX8_binding 53 = .ok (.iload_n 1, 1) := by decide +kernel
theorem dX8_binding_54 : decode cX8_binding 54 = .ok (.invokevirtual 270, 3) := by decide +kernel
theorem dX8_binding_57 : decode cX8_binding 57 = .ok (.if_icmp .ne 5, 3) := by decide +kernel
theorem dX8_binding_60 : decode cX8_binding 60 = .ok (.iload_n 2, 1) := by decide +kernel
theorem dX8_binding_61 : decode cX8_binding 61 = .ok (.ireturn, 1) := by decide +kernel
theorem dX8_binding_62 : decode cX8_binding 62 = .ok (.iinc 2 1, 3) := by decide +kernel
theorem dX8_binding_65 : decode cX8_binding 65 = .ok (.goto (-53), 3) := by decide +kernel
theorem dX8_binding_68 : decode cX8_binding 68 = .ok (.iconst (-1), 1) := by decide +kernel
theorem dX8_binding_69 : decode cX8_binding 69 = .ok (.ireturn, 1) := by decide +kernel
set_option maxRecDepth 20000 in
theorem s_X8_binding_0 {l : Launch} {G : GT} {d : Nat} {Q : AV → AH → Prop} {H : AH} {a0 x1 : Int} {M : Row} (hW : MW H a0 M) (h : (0 ≤ M 6 ∧ M 6 ≤ 24) ∧ ∀ H1 : AH, H1 = hs H a0 5 (1 - bi (decide (0 ≤ x1 ∧ x1 < M 6))) → (0 ≤ x1 ∧ x1 < M 6 → AW l G mX8_binding (d + 1) 0 0 Q 12 [vR a0, vI x1, vI 0] [] 0 0 H1) ∧ (¬ (0 ≤ x1 ∧ x1 < M 6) → Q (vI 0) H1)) (hd : 16 ≤ d := by omega) : AW l G mX8_binding (d + 1) 0 0 Q 0 [vR a0, vI x1, vU] [] 0 0 H := by
  refine a_aload_n dX8_binding_0 rfl rfl ?_
  refine a_iload_n dX8_binding_1 rfl rfl ?_
  obtain ⟨q2_0, h⟩ := h
  refine a_callV dX8_binding_2 cw_X8_binding_2 (as := [vI x1]) rfl rfl (kMod_0 hW.1) (Nat.le_refl _) (Nat.le_of_ble_eq_true rfl) (nocov rfl) (Nat.le_of_ble_eq_true rfl) (Nat.le_of_ble_eq_true rfl) (CL.mono (c_isFlight hW.1 (by rw [hW.2.1]; exact q2_0)) (fun r9 H9 h9 => ?_))
  rw [h9.1, h9.2]
  (try rw [hW.2.1])
  have h_r0_1 := Lay.wr hW.1 ok_Mod (nrf_fld 5 (kMod_0 hW.1) (by decide) (by decide)) (i := 5) (x := (1 - bi (decide (0 ≤ x1 ∧ x1 < M 6))))
  generalize e_H1 : hs H a0 5 (1 - bi (decide (0 ≤ x1 ∧ x1 < M 6))) = H1 at h_r0_1 ⊢
  replace h := h H1 e_H1.symm
  have row_H1 := (show rowM H1 a0 = _ from by rw [← e_H1, rowM_ne (by omega), hW.2.1])
  have mk_H1 := (show okM _ ∧ mkd H1 a0 from by rw [← e_H1]; exact ⟨hW.2.2.1, mkd_wr hW.2.2.2 (by omega) (by omega) (by omega)⟩)
  show AW l G mX8_binding (d + 1) 0 0 Q 5 [vR a0, vI x1, vU] [vI (bi (decide (0 ≤ x1 ∧ x1 < M 6)))] 0 0 H1
  refine a_if_ne dX8_binding_5 (tgt := 10) rfl (fun c5 => ?_) (fun c5 => ?_)
  · replace h := h.1 (bi_1 c5)
    refine a_iconst dX8_binding_10 ⟨by decide, by decide⟩ ?_
    refine a_istore_n dX8_binding_11 rfl (Nat.le_of_ble_eq_true rfl) (ls' := [vR a0, vI x1, vI 0]) rfl ?_
    exact h
  · replace h := h.2 (bi_0 c5)
    refine a_iconst dX8_binding_8 ⟨by decide, by decide⟩ ?_
    exact a_iret dX8_binding_9 rfl (Nat.le_of_ble_eq_true rfl) (Nat.le_of_ble_eq_true rfl) h

set_option maxRecDepth 20000 in
theorem s_X8_binding_12 {l : Launch} {G : GT} {d : Nat} {Q : AV → AH → Prop} {H : AH} {a0 x1 x2 : Int} {M : Row} (hW : MW H a0 M) (h : (0 ≤ x1 ∧ x1 < 24) ∧ (¬ (ofM M x1 7 = 0) → Q (vI (-1)) H) ∧ (ofM M x1 7 = 0 → ((M 6) ≤ x2 → Q (vI (-1)) H) ∧ (x2 < (M 6) → (fl M x2) ∧ (fl M x1) ∧ (ofM M x1 7 = 0) ∧ ∀ H1 : AH, only H H1 (pMks a0) → MW H1 a0 M → (¬ (ahd M x2 x1) → (-2147483648 ≤ x2 + 1 ∧ x2 + 1 ≤ 2147483647) ∧ AW l G mX8_binding (d + 1) 0 0 Q 12 [vR a0, vI x1, vI (x2 + 1)] [] 0 0 H1) ∧ (ahd M x2 x1 → (0 ≤ x2 ∧ x2 < M 6) ∧ ∀ H2 : AH, only H1 H2 (pMks a0) → MW H2 a0 M → (0 ≤ x2 ∧ x2 < 24) ∧ (0 ≤ ofM M x2 1 ∧ ofM M x2 1 ≤ 3) ∧ (0 ≤ ofM M x1 1 ∧ ofM M x1 1 ≤ 3) ∧ (-2147483648 ≤ (tmNow M x2) + (apartM M x2 x1) ∧ (tmNow M x2) + (apartM M x2 x1) ≤ 2147483647) ∧ (0 ≤ x1 ∧ x1 < M 6) ∧ ∀ H3 : AH, only H2 H3 (pMks a0) → MW H3 a0 M → (¬ ((tmNow M x2) + (apartM M x2 x1)) = (tmNow M x1) → (-2147483648 ≤ x2 + 1 ∧ x2 + 1 ≤ 2147483647) ∧ AW l G mX8_binding (d + 1) 0 0 Q 12 [vR a0, vI x1, vI (x2 + 1)] [] 0 0 H3) ∧ (((tmNow M x2) + (apartM M x2 x1)) = (tmNow M x1) → Q (vI x2) H3))))) (hd : 16 ≤ d := by omega) : AW l G mX8_binding (d + 1) 0 0 Q 12 [vR a0, vI x1, vI x2] [] 0 0 H := by
  refine a_aload_n dX8_binding_12 rfl rfl ?_
  refine a_iload_n dX8_binding_13 rfl rfl ?_
  obtain ⟨q14_0, h⟩ := h
  refine a_callV dX8_binding_14 cw_X8_binding_14 (as := [vI x1]) rfl rfl (kMod_0 hW.1) (Nat.le_refl _) (Nat.le_of_ble_eq_true rfl) (nocov rfl) (Nat.le_of_ble_eq_true rfl) (Nat.le_of_ble_eq_true rfl) (CL.mono (c_isPlanned hW.1 q14_0) (fun r9 H9 h9 => ?_))
  rw [h9.1, h9.2]
  (try rw [hW.2.1])
  show AW l G mX8_binding (d + 1) 0 0 Q 17 [vR a0, vI x1, vI x2] [vI (bi (decide (ofM M x1 7 = 0)))] 0 0 H
  refine a_if_eq dX8_binding_17 (tgt := 68) rfl (fun c17 => ?_) (fun c17 => ?_)
  · replace h := h.1 (bi_0 c17)
    refine a_iconst dX8_binding_68 ⟨by decide, by decide⟩ ?_
    exact a_iret dX8_binding_69 rfl (Nat.le_of_ble_eq_true rfl) (Nat.le_of_ble_eq_true rfl) h
  · replace h := h.2 (bi_1 c17)
    refine a_iload_n dX8_binding_20 rfl rfl ?_
    refine a_aload_n dX8_binding_21 rfl rfl ?_
    refine a_getR dX8_binding_22 fw_RX8_9 rfl rfl (kMod_0 hW.1) (rMod_0_0 hW.1) ?_
    refine a_bipush dX8_binding_25 (by decide) ?_
    refine b_ialdV dX8_binding_27 (kMod_1 hW.1) (nMod_1 hW.1) (⟨by decide, by decide⟩) (congrFun hW.2.1 _) ?_
    refine a_icmp_ge dX8_binding_28 (tgt := 68) rfl (fun c28 => ?_) (fun c28 => ?_)
    · replace h := h.1 c28
      refine a_iconst dX8_binding_68 ⟨by decide, by decide⟩ ?_
      exact a_iret dX8_binding_69 rfl (Nat.le_of_ble_eq_true rfl) (Nat.le_of_ble_eq_true rfl) h
    · replace h := h.2 c28
      refine a_aload_n dX8_binding_31 rfl rfl ?_
      refine a_iload_n dX8_binding_32 rfl rfl ?_
      refine a_iload_n dX8_binding_33 rfl rfl ?_
      obtain ⟨q34_0, h⟩ := h
      obtain ⟨q34_1, h⟩ := h
      obtain ⟨q34_2, h⟩ := h
      refine a_callV dX8_binding_34 cw_X8_binding_34 (as := [vI x2, vI x1]) rfl rfl (kMod_0 hW.1) (Nat.le_refl _) (Nat.le_of_ble_eq_true rfl) (nocov rfl) (Nat.le_of_ble_eq_true rfl) (Nat.le_of_ble_eq_true rfl) (CL.mono (c_isAhead (show MW H a0 M from ⟨hW.1, hW.2.1, hW.2.2⟩) q34_0 q34_1 q34_2) (fun r9 H1 h9 => ?_))
      obtain ⟨e9, o_H1, hW_H1⟩ := h9
      rw [e9]
      replace h := h H1 o_H1 hW_H1
      show AW l G mX8_binding (d + 1) 0 0 Q 37 [vR a0, vI x1, vI x2] [vI (bi (decide (ahd M x2 x1)))] 0 0 H1
      refine a_if_eq dX8_binding_37 (tgt := 62) rfl (fun c37 => ?_) (fun c37 => ?_)
      · replace h := h.1 (bi_0 c37)
        obtain ⟨q62_0, h⟩ := h
        refine a_iinc dX8_binding_62 rfl (Nat.le_of_ble_eq_true rfl) (by decide) q62_0 (ls' := [vR a0, vI x1, vI (x2 + 1)]) rfl ?_
        refine a_goto dX8_binding_65 (tgt := 12) rfl ?_
        exact h
      · replace h := h.2 (bi_1 c37)
        refine a_aload_n dX8_binding_40 rfl rfl ?_
        refine a_iload_n dX8_binding_41 rfl rfl ?_
        obtain ⟨q42_0, h⟩ := h
        refine a_callV dX8_binding_42 cw_X8_binding_42 (as := [vI x2]) rfl rfl (kMod_0 hW_H1.1) (Nat.le_refl _) (Nat.le_of_ble_eq_true rfl) (nocov rfl) (Nat.le_of_ble_eq_true rfl) (Nat.le_of_ble_eq_true rfl) (CL.mono (c_timeNow (show MW H1 a0 M from ⟨hW_H1.1, hW_H1.2.1, hW_H1.2.2⟩) q42_0) (fun r9 H2 h9 => ?_))
        obtain ⟨e9, o_H2, hW_H2⟩ := h9
        rw [e9]
        replace h := h H2 o_H2 hW_H2
        show AW l G mX8_binding (d + 1) 0 0 Q 45 [vR a0, vI x1, vI x2] [vI (tmNow M x2)] 0 0 H2
        refine a_aload_n dX8_binding_45 rfl rfl ?_
        refine a_iload_n dX8_binding_46 rfl rfl ?_
        refine a_iload_n dX8_binding_47 rfl rfl ?_
        obtain ⟨q48_0, h⟩ := h
        obtain ⟨q48_2, h⟩ := h
        obtain ⟨q48_3, h⟩ := h
        refine a_callV dX8_binding_48 cw_X8_binding_48 (as := [vI x2, vI x1]) rfl rfl (kMod_0 hW_H2.1) (Nat.le_refl _) (Nat.le_of_ble_eq_true rfl) (nocov rfl) (Nat.le_of_ble_eq_true rfl) (Nat.le_of_ble_eq_true rfl) (CL.mono (c_apart hW_H2.1 q48_0 q14_0 (by rw [hW_H2.2.1]; exact q48_2) (by rw [hW_H2.2.1]; exact q48_3)) (fun r9 H9 h9 => ?_))
        rw [h9.1, h9.2]
        (try rw [hW_H2.2.1])
        show AW l G mX8_binding (d + 1) 0 0 Q 51 [vR a0, vI x1, vI x2] [vI (apartM M x2 x1), vI (tmNow M x2)] 0 0 H2
        obtain ⟨q51_0, h⟩ := h
        refine a_iadd dX8_binding_51 q51_0 ?_
        refine a_aload_n dX8_binding_52 rfl rfl ?_
        refine a_iload_n dX8_binding_53 rfl rfl ?_
        obtain ⟨q54_0, h⟩ := h
        refine a_callV dX8_binding_54 cw_X8_binding_54 (as := [vI x1]) rfl rfl (kMod_0 hW_H2.1) (Nat.le_refl _) (Nat.le_of_ble_eq_true rfl) (nocov rfl) (Nat.le_of_ble_eq_true rfl) (Nat.le_of_ble_eq_true rfl) (CL.mono (c_timeNow (show MW H2 a0 M from ⟨hW_H2.1, hW_H2.2.1, hW_H2.2.2⟩) q54_0) (fun r9 H3 h9 => ?_))
        obtain ⟨e9, o_H3, hW_H3⟩ := h9
        rw [e9]
        replace h := h H3 o_H3 hW_H3
        show AW l G mX8_binding (d + 1) 0 0 Q 57 [vR a0, vI x1, vI x2] [vI (tmNow M x1), vI ((tmNow M x2) + (apartM M x2 x1))] 0 0 H3
        refine a_icmp_ne dX8_binding_57 (tgt := 62) rfl (fun c57 => ?_) (fun c57 => ?_)
        · replace h := h.1 c57
          obtain ⟨q62_0, h⟩ := h
          refine a_iinc dX8_binding_62 rfl (Nat.le_of_ble_eq_true rfl) (by decide) q62_0 (ls' := [vR a0, vI x1, vI (x2 + 1)]) rfl ?_
          refine a_goto dX8_binding_65 (tgt := 12) rfl ?_
          exact h
        · replace h := h.2 c57
          refine a_iload_n dX8_binding_60 rfl rfl ?_
          exact a_iret dX8_binding_61 rfl (Nat.le_of_ble_eq_true rfl) (Nat.le_of_ble_eq_true rfl) h


theorem dX8_counts_0 : decode cX8_counts 0 = .ok (.aload_n 0, 1) := by decide +kernel
theorem dX8_counts_1 : decode cX8_counts 1 = .ok (.getfield 30, 3) := by decide +kernel
theorem dX8_counts_4 : decode cX8_counts 4 = .ok (.iload_n 1, 1) := by decide +kernel
theorem dX8_counts_5 : decode cX8_counts 5 = .ok (.iaload, 1) := by decide +kernel
theorem dX8_counts_6 : decode cX8_counts 6 = .ok (.invokestatic 218, 3) := by decide +kernel
theorem dX8_counts_9 : decode cX8_counts 9 = .ok (.istore 8, 2) := by decide +kernel
theorem dX8_counts_11 : decode cX8_counts 11 = .ok (.iload_n 2, 1) := by decide +kernel
theorem dX8_counts_12 : decode cX8_counts 12 = .ok (.iload 8, 2) := by decide +kernel
theorem dX8_counts_14 : decode cX8_counts 14 = .ok (.if_icmp .ne 36, 3) := by decide +kernel
theorem dX8_counts_17 : decode cX8_counts 17 = .ok (.aload_n 0, 1) := by decide +kernel
theorem dX8_counts_18 : decode cX8_counts 18 = .ok (.dup, 1) := by decide +kernel
theorem dX8_counts_19 : decode cX8_counts 19 = .ok (.getfield 298, 3) := by decide +kernel
theorem dX8_counts_22 : decode cX8_counts 22 = .ok (.iconst 1, 1) := by decide +kernel
theorem dX8_counts_23 : decode cX8_counts 23 = .ok (.iadd, 1) := by decide +kernel
theorem dX8_counts_24 : decode cX8_counts 24 = .ok (.putfield 298, 3) := by decide +kernel
theorem dX8_counts_27 : decode cX8_counts 27 = .ok (.aload_n 0, 1) := by decide +kernel
theorem dX8_counts_28 : decode cX8_counts 28 = .ok (.dup, 1) := by decide +kernel
theorem dX8_counts_29 : decode cX8_counts 29 = .ok (.getfield 301, 3) := by decide +kernel
theorem dX8_counts_32 : decode cX8_counts 32 = .ok (.lload 4, 2) := by decide +kernel
theorem dX8_counts_34 : decode cX8_counts 34 = .ok (.lload 6, 2) := by decide +kernel
theorem dX8_counts_36 : decode cX8_counts 36 = .ok (.lcmp, 1) := by decide +kernel
theorem dX8_counts_37 : decode cX8_counts 37 = .ok (.ifCond .ne 7, 3) := by decide +kernel
theorem dX8_counts_40 : decode cX8_counts 40 = .ok (.iconst 1, 1) := by decide +kernel
theorem dX8_counts_41 : decode cX8_counts 41 = .ok (.goto 4, 3) := by decide +kernel
theorem dX8_counts_44 : decode cX8_counts 44 = .ok (.iconst 0, 1) := by decide +kernel
theorem dX8_counts_45 : decode cX8_counts 45 = .ok (.iadd, 1) := by decide +kernel
theorem dX8_counts_46 : decode cX8_counts 46 = .ok (.putfield 301, 3) := by decide +kernel
theorem dX8_counts_49 : decode cX8_counts 49 = .ok (.return_, 1) := by decide +kernel
theorem dX8_counts_50 : decode cX8_counts 50 = .ok (.iconst 0, 1) := by decide +kernel
theorem dX8_counts_51 : decode cX8_counts 51 = .ok (.istore 9, 2) := by decide +kernel
theorem dX8_counts_53 : decode cX8_counts 53 = .ok (.iload 9, 2) := by decide +kernel
theorem dX8_counts_55 : decode cX8_counts 55 = .ok (.iload 8, 2) := by decide +kernel
theorem dX8_counts_57 : decode cX8_counts 57 = .ok (.if_icmp .ge 104, 3) := by decide +kernel
theorem dX8_counts_60 : decode cX8_counts 60 = .ok (.iload_n 3, 1) := by decide +kernel
theorem dX8_counts_61 : decode cX8_counts 61 = .ok (.iload 9, 2) := by decide +kernel
theorem dX8_counts_63 : decode cX8_counts 63 = .ok (.ishr, 1) := by decide +kernel
theorem dX8_counts_64 : decode cX8_counts 64 = .ok (.iconst 1, 1) := by decide +kernel
theorem dX8_counts_65 : decode cX8_counts 65 = .ok (.iand, 1) := by decide +kernel
theorem dX8_counts_66 : decode cX8_counts 66 = .ok (.iconst 1, 1) := by decide +kernel
theorem dX8_counts_67 : decode cX8_counts 67 = .ok (.if_icmp .eq 88, 3) := by decide +kernel
theorem dX8_counts_70 : decode cX8_counts 70 = .ok (.iload 9, 2) := by decide +kernel
theorem dX8_counts_72 : decode cX8_counts 72 = .ok (.iload_n 2, 1) := by decide +kernel
theorem dX8_counts_73 : decode cX8_counts 73 = .ok (.isub, 1) := by decide +kernel
theorem dX8_counts_74 : decode cX8_counts 74 = .ok (.invokestatic 222, 3) := by decide +kernel
theorem dX8_counts_77 : decode cX8_counts 77 = .ok (.aload_n 0, 1) := by decide +kernel
theorem dX8_counts_78 : decode cX8_counts 78 = .ok (.getfield 9, 3) := by decide +kernel
theorem dX8_counts_81 : decode cX8_counts 81 = .ok (.iconst 1, 1) := by decide +kernel
theorem dX8_counts_82 : decode cX8_counts 82 = .ok (.iaload, 1) := by decide +kernel
theorem dX8_counts_83 : decode cX8_counts 83 = .ok (.if_icmp .le 6, 3) := by decide +kernel
theorem dX8_counts_86 : decode cX8_counts 86 = .ok (.goto 69, 3) := by decide +kernel
theorem dX8_counts_89 : decode cX8_counts 89 = .ok (.aload_n 0, 1) := by decide +kernel
theorem dX8_counts_90 : decode cX8_counts 90 = .ok (.getfield 33, 3) := by decide +kernel
theorem dX8_counts_93 : decode cX8_counts 93 = .ok (.bipush 24, 2) := by decide +kernel
theorem dX8_counts_95 : decode cX8_counts 95 = .ok (.iload_n 1, 1) := by decide +kernel
theorem dX8_counts_96 : decode cX8_counts 96 = .ok (.imul, 1) := by decide +kernel
theorem dX8_counts_97 : decode cX8_counts 97 = .ok (.iload 9, 2) := by decide +kernel
theorem dX8_counts_99 : decode cX8_counts 99 = .ok (.iadd, 1) := by decide +kernel
theorem dX8_counts_100 : decode cX8_counts 100 = .ok (.iaload, 1) := by decide +kernel
theorem dX8_counts_101 : decode cX8_counts 101 = .ok (.istore 10, 2) := by decide +kernel
theorem dX8_counts_103 : decode cX8_counts 103 = .ok (.aload_n 0, 1) := by decide +kernel
theorem dX8_counts_104 : decode cX8_counts 104 = .ok (.getfield 45, 3) := by decide +kernel
theorem dX8_counts_107 : decode cX8_counts 107 = .ok (.iload_n 2, 1) := by decide +kernel
theorem dX8_counts_108 : decode cX8_counts 108 = .ok (.iload 10, 2) := by decide +kernel
theorem dX8_counts_110 : decode cX8_counts 110 = .ok (.iastore, 1) := by decide +kernel
theorem dX8_counts_111 : decode cX8_counts 111 = .ok (.aload_n 0, 1) := by decide +kernel
theorem dX8_counts_112 : decode cX8_counts 112 = .ok (.getfield 48, 3) := by decide +kernel
theorem dX8_counts_115 : decode cX8_counts 115 = .ok (.iload_n 2, 1) := by decide +kernel
theorem dX8_counts_116 : decode cX8_counts 116 = .ok (.aload_n 0, 1) := by decide +kernel
theorem dX8_counts_117 : decode cX8_counts 117 = .ok (.iload 10, 2) := by decide +kernel
theorem dX8_counts_119 : decode cX8_counts 119 = .ok (.iload_n 2, 1) := by decide +kernel
theorem dX8_counts_120 : decode cX8_counts 120 = .ok (.invokevirtual 233, 3) := by decide +kernel
theorem dX8_counts_123 : decode cX8_counts 123 = .ok (.iastore, 1) := by decide +kernel
theorem dX8_counts_124 : decode cX8_counts 124 = .ok (.aload_n 0, 1) := by decide +kernel
theorem dX8_counts_125 : decode cX8_counts 125 = .ok (.iload_n 1, 1) := by decide +kernel
theorem dX8_counts_126 : decode cX8_counts 126 = .ok (.iload_n 2, 1) := by decide +kernel
theorem dX8_counts_127 : decode cX8_counts 127 = .ok (.iconst 1, 1) := by decide +kernel
theorem dX8_counts_128 : decode cX8_counts 128 = .ok (.iadd, 1) := by decide +kernel
theorem dX8_counts_129 : decode cX8_counts 129 = .ok (.iload_n 3, 1) := by decide +kernel
theorem dX8_counts_130 : decode cX8_counts 130 = .ok (.iconst 1, 1) := by decide +kernel
theorem dX8_counts_131 : decode cX8_counts 131 = .ok (.iload 9, 2) := by decide +kernel
theorem dX8_counts_133 : decode cX8_counts 133 = .ok (.ishl, 1) := by decide +kernel
theorem dX8_counts_134 : decode cX8_counts 134 = .ok (.ior, 1) := by decide +kernel
theorem dX8_counts_135 : decode cX8_counts 135 = .ok (.lload 4, 2) := by decide +kernel
theorem dX8_counts_137 : decode cX8_counts 137 = .ok (.aload_n 0, 1) := by decide +kernel
theorem dX8_counts_138 : decode cX8_counts 138 = .ok (.iload 10, 2) := by decide +kernel
theorem dX8_counts_140 : decode cX8_counts 140 = .ok (.aload_n 0, 1) := by decide +kernel
theorem dX8_counts_141 : decode cX8_counts 141 = .ok (.getfield 48, 3) := by decide +kernel
theorem dX8_counts_144 : decode cX8_counts 144 = .ok (.iload_n 2, 1) := by decide +kernel
theorem dX8_counts_145 : decode cX8_counts 145 = .ok (.iaload, 1) := by decide +kernel
theorem dX8_counts_146 : decode cX8_counts 146 = .ok (.invokevirtual 236, 3) := by decide +kernel
theorem dX8_counts_149 : decode cX8_counts 149 = .ok (.ladd, 1) := by decide +kernel
theorem dX8_counts_150 : decode cX8_counts 150 = .ok (.lload 6, 2) := by decide +kernel
theorem dX8_counts_152 : decode cX8_counts 152 = .ok (.invokevirtual 304, 3) := by decide +kernel
theorem dX8_counts_155 : decode cX8_counts 155 = .ok (.iinc 9 1, 3) := by decide +kernel
theorem dX8_counts_158 : decode cX8_counts 158 = .ok (.goto (-105), 3) := by decide +kernel
theorem dX8_counts_161 : decode cX8_counts 161 = .ok (.return_, 1) := by decide +kernel
set_option maxRecDepth 20000 in
theorem s_X8_counts_0 {l : Launch} {G : GT} {d : Nat} {Q : AV → AH → Prop} {H : AH} {a0 x1 x2 x3 x4 x6 : Int} (h_r0 : Lay LMod H a0) (h : (0 ≤ x1 ∧ x1 < 3) ∧ (¬ x2 = (min 7 (hg H (a0 + 7) x1)) → AW l G mX8_counts (d + 1) 0 0 Q 53 [vR a0, vI x1, vI x2, vI x3, vJ x4, vU, vJ x6, vU, vI (min 7 (hg H (a0 + 7) x1)), vI 0, vU] [] 0 0 H) ∧ (x2 = (min 7 (hg H (a0 + 7) x1)) → (-2147483648 ≤ (hg H a0 23) + 1 ∧ (hg H a0 23) + 1 ≤ 2147483647) ∧ ∀ H1 : AH, H1 = hs H a0 23 ((hg H a0 23) + 1) → (¬ x4 = x6 → (-2147483648 ≤ (hg H1 a0 22) + 0 ∧ (hg H1 a0 22) + 0 ≤ 2147483647) ∧ ∀ H2 : AH, H2 = hs H1 a0 22 ((hg H1 a0 22) + 0) → Q vV H2) ∧ (x4 = x6 → (-2147483648 ≤ (hg H1 a0 22) + 1 ∧ (hg H1 a0 22) + 1 ≤ 2147483647) ∧ ∀ H2 : AH, H2 = hs H1 a0 22 ((hg H1 a0 22) + 1) → Q vV H2))) (hd : 2 ≤ d := by omega) : AW l G mX8_counts (d + 1) 0 0 Q 0 [vR a0, vI x1, vI x2, vI x3, vJ x4, vU, vJ x6, vU, vU, vU, vU] [] 0 0 H := by
  refine a_aload_n dX8_counts_0 rfl rfl ?_
  refine a_getR dX8_counts_1 fw_RX8_30 rfl rfl (kMod_0 h_r0) (rMod_0_14 h_r0) ?_
  refine a_iload_n dX8_counts_4 rfl rfl ?_
  obtain ⟨q5_0, h⟩ := h
  refine b_iald dX8_counts_5 (kMod_7 h_r0) (nMod_7 h_r0) q5_0 ?_
  refine a_callS dX8_counts_6 cw_X8_counts_6 (as := [vI (hg H (a0 + 7) x1)]) rfl rfl (Nat.le_refl _) (Nat.le_of_ble_eq_true rfl) (nocov rfl) (Nat.le_of_ble_eq_true rfl) (Nat.le_of_ble_eq_true rfl) (CL.mono (c_windowOf  ) (fun r9 H9 h9 => ?_))
  rw [h9.1, h9.2]
  show AW l G mX8_counts (d + 1) 0 0 Q 9 [vR a0, vI x1, vI x2, vI x3, vJ x4, vU, vJ x6, vU, vU, vU, vU] [vI (min 7 (hg H (a0 + 7) x1))] 0 0 H
  refine a_istore dX8_counts_9 (Nat.le_of_ble_eq_true rfl) (ls' := [vR a0, vI x1, vI x2, vI x3, vJ x4, vU, vJ x6, vU, vI (min 7 (hg H (a0 + 7) x1)), vU, vU]) rfl ?_
  refine a_iload_n dX8_counts_11 rfl rfl ?_
  refine a_iload dX8_counts_12 rfl ?_
  refine a_icmp_ne dX8_counts_14 (tgt := 50) rfl (fun c14 => ?_) (fun c14 => ?_)
  · replace h := h.1 c14
    refine a_iconst dX8_counts_50 ⟨by decide, by decide⟩ ?_
    refine a_istore dX8_counts_51 (Nat.le_of_ble_eq_true rfl) (ls' := [vR a0, vI x1, vI x2, vI x3, vJ x4, vU, vJ x6, vU, vI (min 7 (hg H (a0 + 7) x1)), vI 0, vU]) rfl ?_
    exact h
  · replace h := h.2 c14
    refine a_aload_n dX8_counts_17 rfl rfl ?_
    refine a_dup dX8_counts_18 rfl ?_
    refine a_getI dX8_counts_19 fw_RX8_298 rfl rfl (kMod_0 h_r0) ?_
    refine a_iconst dX8_counts_22 ⟨by decide, by decide⟩ ?_
    obtain ⟨q23_0, h⟩ := h
    refine a_iadd dX8_counts_23 q23_0 ?_
    refine a_putI dX8_counts_24 fp_RX8_298 rfl rfl (kMod_0 h_r0) ?_
    have h_r0_1 := Lay.wr h_r0 ok_Mod (nrf_fld 23 (kMod_0 h_r0) (by decide) (by decide)) (i := 23) (x := ((hg H a0 23) + 1))
    generalize e_H1 : hs H a0 23 ((hg H a0 23) + 1) = H1 at h_r0_1 ⊢
    replace h := h H1 e_H1.symm
    refine a_aload_n dX8_counts_27 rfl rfl ?_
    refine a_dup dX8_counts_28 rfl ?_
    refine a_getI dX8_counts_29 fw_RX8_301 rfl rfl (kMod_0 h_r0_1) ?_
    refine a_lload dX8_counts_32 rfl ?_
    refine a_lload dX8_counts_34 rfl ?_
    refine a_lcmp_ne dX8_counts_36 dX8_counts_37 (tgt := 44) rfl (fun c36 => ?_) (fun c36 => ?_)
    · replace h := h.1 c36
      refine a_iconst dX8_counts_44 ⟨by decide, by decide⟩ ?_
      obtain ⟨q45_0, h⟩ := h
      refine a_iadd dX8_counts_45 q45_0 ?_
      refine a_putI dX8_counts_46 fp_RX8_301 rfl rfl (kMod_0 h_r0_1) ?_
      have h_r0_2 := Lay.wr h_r0_1 ok_Mod (nrf_fld 22 (kMod_0 h_r0_1) (by decide) (by decide)) (i := 22) (x := ((hg H1 a0 22) + 0))
      generalize e_H2 : hs H1 a0 22 ((hg H1 a0 22) + 0) = H2 at h_r0_2 ⊢
      replace h := h H2 e_H2.symm
      exact a_vret dX8_counts_49 rfl (Nat.le_of_ble_eq_true rfl) (Nat.le_of_ble_eq_true rfl) h
    · replace h := h.2 c36
      refine a_iconst dX8_counts_40 ⟨by decide, by decide⟩ ?_
      refine a_goto dX8_counts_41 (tgt := 45) rfl ?_
      obtain ⟨q45_0, h⟩ := h
      refine a_iadd dX8_counts_45 q45_0 ?_
      refine a_putI dX8_counts_46 fp_RX8_301 rfl rfl (kMod_0 h_r0_1) ?_
      have h_r0_2 := Lay.wr h_r0_1 ok_Mod (nrf_fld 22 (kMod_0 h_r0_1) (by decide) (by decide)) (i := 22) (x := ((hg H1 a0 22) + 1))
      generalize e_H2 : hs H1 a0 22 ((hg H1 a0 22) + 1) = H2 at h_r0_2 ⊢
      replace h := h H2 e_H2.symm
      exact a_vret dX8_counts_49 rfl (Nat.le_of_ble_eq_true rfl) (Nat.le_of_ble_eq_true rfl) h

set_option maxRecDepth 20000 in
theorem s_X8_counts_53 {l : Launch} {G : GT} {d : Nat} {Q : AV → AH → Prop} {H : AH} {a0 x1 x2 x3 x4 x6 x8 x9 : Int} (h_r0 : Lay LMod H a0) (h : (x8 ≤ x9 → Q vV H) ∧ (x9 < x8 → (0 ≤ x9 ∧ x9 ≤ 31) ∧ (((shr x3 x9) % 2) = 1 → (-2147483648 ≤ x9 + 1 ∧ x9 + 1 ≤ 2147483647) ∧ AW l G mX8_counts (d + 1) 0 0 Q 53 [vR a0, vI x1, vI x2, vI x3, vJ x4, vU, vJ x6, vU, vI x8, vI (x9 + 1), vU] [] 0 0 H) ∧ (¬ ((shr x3 x9) % 2) = 1 → (-2147483648 ≤ x9 - x2 ∧ x9 - x2 ≤ 2147483647) ∧ (-1000000 ≤ (x9 - x2) ∧ (x9 - x2) ≤ 1000000) ∧ ((ab (x9 - x2)) ≤ (rowM H a0 1) → (-2147483648 ≤ 24 * x1 ∧ 24 * x1 ≤ 2147483647) ∧ (-2147483648 ≤ (24 * x1) + x9 ∧ (24 * x1) + x9 ≤ 2147483647) ∧ (0 ≤ ((24 * x1) + x9) ∧ ((24 * x1) + x9) < 72) ∧ (0 ≤ x2 ∧ x2 < 24) ∧ ∀ H1 : AH, H1 = hs H (a0 + 12) x2 (hg H (a0 + 8) ((24 * x1) + x9)) → CL l G mX8_timeAt d 0 0 [vR a0, vI (hg H (a0 + 8) ((24 * x1) + x9)), vI x2] H1 (fun r9 H2 => Lay LMod H2 a0 ∧ ∃ y2 : Int, r9 = vI y2 ∧ ∀ H3 : AH, H3 = hs H2 (a0 + 13) x2 y2 → (-2147483648 ≤ x2 + 1 ∧ x2 + 1 ≤ 2147483647) ∧ (0 ≤ x9 ∧ x9 ≤ 30) ∧ (0 ≤ x3 ∧ 0 ≤ (pw x9)) ∧ (okM (rowM H3 a0)) ∧ (0 ≤ (hg H (a0 + 8) ((24 * x1) + x9)) ∧ (hg H (a0 + 8) ((24 * x1) + x9)) < rowM H3 a0 6) ∧ (0 ≤ (hg H3 (a0 + 13) x2) ∧ (hg H3 (a0 + 13) x2) ≤ 400000) ∧ (-9223372036854775808 ≤ x4 + (costM (rowM H3 a0) (hg H (a0 + 8) ((24 * x1) + x9)) (hg H3 (a0 + 13) x2)) ∧ x4 + (costM (rowM H3 a0) (hg H (a0 + 8) ((24 * x1) + x9)) (hg H3 (a0 + 13) x2)) ≤ 9223372036854775807) ∧ CL l G mX8_counts d 0 0 [vR a0, vI x1, vI (x2 + 1), vI (ior x3 (pw x9)), vJ (x4 + (costM (rowM H3 a0) (hg H (a0 + 8) ((24 * x1) + x9)) (hg H3 (a0 + 13) x2))), vJ x6] H3 (fun r9 H4 => Lay LMod H4 a0 ∧ r9 = vV ∧ (-2147483648 ≤ x9 + 1 ∧ x9 + 1 ≤ 2147483647) ∧ AW l G mX8_counts (d + 1) 0 0 Q 53 [vR a0, vI x1, vI x2, vI x3, vJ x4, vU, vJ x6, vU, vI x8, vI (x9 + 1), vU] [] 0 0 H4))) ∧ ((rowM H a0 1) < (ab (x9 - x2)) → (-2147483648 ≤ x9 + 1 ∧ x9 + 1 ≤ 2147483647) ∧ AW l G mX8_counts (d + 1) 0 0 Q 53 [vR a0, vI x1, vI x2, vI x3, vJ x4, vU, vJ x6, vU, vI x8, vI (x9 + 1), vU] [] 0 0 H)))) (hd : 2 ≤ d := by omega) : AW l G mX8_counts (d + 1) 0 0 Q 53 [vR a0, vI x1, vI x2, vI x3, vJ x4, vU, vJ x6, vU, vI x8, vI x9, vU] [] 0 0 H := by
  refine a_iload dX8_counts_53 rfl ?_
  refine a_iload dX8_counts_55 rfl ?_
  refine a_icmp_ge dX8_counts_57 (tgt := 161) rfl (fun c57 => ?_) (fun c57 => ?_)
  · replace h := h.1 c57
    exact a_vret dX8_counts_161 rfl (Nat.le_of_ble_eq_true rfl) (Nat.le_of_ble_eq_true rfl) h
  · replace h := h.2 c57
    refine a_iload_n dX8_counts_60 rfl rfl ?_
    refine a_iload dX8_counts_61 rfl ?_
    obtain ⟨q63_0, h⟩ := h
    refine a_ishr dX8_counts_63 q63_0 ?_
    refine a_iconst dX8_counts_64 ⟨by decide, by decide⟩ ?_
    refine a_iand1 dX8_counts_65 ?_
    refine a_iconst dX8_counts_66 ⟨by decide, by decide⟩ ?_
    refine a_icmp_eq dX8_counts_67 (tgt := 155) rfl (fun c67 => ?_) (fun c67 => ?_)
    · replace h := h.1 c67
      obtain ⟨q155_0, h⟩ := h
      refine a_iinc dX8_counts_155 rfl (Nat.le_of_ble_eq_true rfl) (by decide) q155_0 (ls' := [vR a0, vI x1, vI x2, vI x3, vJ x4, vU, vJ x6, vU, vI x8, vI (x9 + 1), vU]) rfl ?_
      refine a_goto dX8_counts_158 (tgt := 53) rfl ?_
      exact h
    · replace h := h.2 c67
      refine a_iload dX8_counts_70 rfl ?_
      refine a_iload_n dX8_counts_72 rfl rfl ?_
      obtain ⟨q73_0, h⟩ := h
      refine a_isub dX8_counts_73 q73_0 ?_
      obtain ⟨q74_0, h⟩ := h
      refine a_mabs dX8_counts_74 cw_X8_counts_74 q74_0 (Nat.le_of_ble_eq_true rfl) (Nat.le_of_ble_eq_true rfl) (Nat.le_of_ble_eq_true rfl) ?_
      refine a_aload_n dX8_counts_77 rfl rfl ?_
      refine a_getR dX8_counts_78 fw_RX8_9 rfl rfl (kMod_0 h_r0) (rMod_0_0 h_r0) ?_
      refine a_iconst dX8_counts_81 ⟨by decide, by decide⟩ ?_
      refine b_iald dX8_counts_82 (kMod_1 h_r0) (nMod_1 h_r0) (⟨by decide, by decide⟩) ?_
      refine a_icmp_le dX8_counts_83 (tgt := 89) rfl (fun c83 => ?_) (fun c83 => ?_)
      · replace h := h.1 c83
        refine a_aload_n dX8_counts_89 rfl rfl ?_
        refine a_getR dX8_counts_90 fw_RX8_33 rfl rfl (kMod_0 h_r0) (rMod_0_15 h_r0) ?_
        refine a_bipush dX8_counts_93 (by decide) ?_
        refine a_iload_n dX8_counts_95 rfl rfl ?_
        obtain ⟨q96_0, h⟩ := h
        refine a_imul dX8_counts_96 q96_0 ?_
        refine a_iload dX8_counts_97 rfl ?_
        obtain ⟨q99_0, h⟩ := h
        refine a_iadd dX8_counts_99 q99_0 ?_
        obtain ⟨q100_0, h⟩ := h
        refine b_iald dX8_counts_100 (kMod_8 h_r0) (nMod_8 h_r0) q100_0 ?_
        refine a_istore dX8_counts_101 (Nat.le_of_ble_eq_true rfl) (ls' := [vR a0, vI x1, vI x2, vI x3, vJ x4, vU, vJ x6, vU, vI x8, vI x9, vI (hg H (a0 + 8) ((24 * x1) + x9))]) rfl ?_
        refine a_aload_n dX8_counts_103 rfl rfl ?_
        refine a_getR dX8_counts_104 fw_RX8_45 rfl rfl (kMod_0 h_r0) (rMod_0_19 h_r0) ?_
        refine a_iload_n dX8_counts_107 rfl rfl ?_
        refine a_iload dX8_counts_108 rfl ?_
        obtain ⟨q110_0, h⟩ := h
        refine b_iast dX8_counts_110 (kMod_12 h_r0) (nMod_12 h_r0) q110_0 ?_
        have h_r0_1 := Lay.wr h_r0 ok_Mod (nrf_arr (kMod_12 h_r0) (by decide) (by decide)) (i := x2) (x := (hg H (a0 + 8) ((24 * x1) + x9)))
        generalize e_H1 : hs H (a0 + 12) x2 (hg H (a0 + 8) ((24 * x1) + x9)) = H1 at h_r0_1 ⊢
        replace h := h H1 e_H1.symm
        refine a_aload_n dX8_counts_111 rfl rfl ?_
        refine a_getR dX8_counts_112 fw_RX8_48 rfl rfl (kMod_0 h_r0_1) (rMod_0_20 h_r0_1) ?_
        refine a_iload_n dX8_counts_115 rfl rfl ?_
        refine a_aload_n dX8_counts_116 rfl rfl ?_
        refine a_iload dX8_counts_117 rfl ?_
        refine a_iload_n dX8_counts_119 rfl rfl ?_
        refine a_callV dX8_counts_120 cw_X8_counts_120 (as := [vI (hg H (a0 + 8) ((24 * x1) + x9)), vI x2]) rfl rfl (kMod_0 h_r0_1) (Nat.le_refl _) (Nat.le_of_ble_eq_true rfl) (nocov rfl) (Nat.le_of_ble_eq_true rfl) (Nat.le_of_ble_eq_true rfl) (CL.mono h (fun r9 H2 h => ?_))
        obtain ⟨h_r0_2, y2, e9, h⟩ := h
        rw [e9]
        show AW l G mX8_counts (d + 1) 0 0 Q 123 [vR a0, vI x1, vI x2, vI x3, vJ x4, vU, vJ x6, vU, vI x8, vI x9, vI (hg H (a0 + 8) ((24 * x1) + x9))] [vI y2, vI x2, vR (a0 + 13)] 0 0 H2
        refine b_iast dX8_counts_123 (kMod_13 h_r0_2) (nMod_13 h_r0_2) q110_0 ?_
        have h_r0_3 := Lay.wr h_r0_2 ok_Mod (nrf_arr (kMod_13 h_r0_2) (by decide) (by decide)) (i := x2) (x := y2)
        generalize e_H3 : hs H2 (a0 + 13) x2 y2 = H3 at h_r0_3 ⊢
        replace h := h H3 e_H3.symm
        refine a_aload_n dX8_counts_124 rfl rfl ?_
        refine a_iload_n dX8_counts_125 rfl rfl ?_
        refine a_iload_n dX8_counts_126 rfl rfl ?_
        refine a_iconst dX8_counts_127 ⟨by decide, by decide⟩ ?_
        obtain ⟨q128_0, h⟩ := h
        refine a_iadd dX8_counts_128 q128_0 ?_
        refine a_iload_n dX8_counts_129 rfl rfl ?_
        refine a_iconst dX8_counts_130 ⟨by decide, by decide⟩ ?_
        refine a_iload dX8_counts_131 rfl ?_
        obtain ⟨q133_0, h⟩ := h
        refine a_ishl dX8_counts_133 q133_0 ?_
        obtain ⟨q134_0, h⟩ := h
        refine a_ior dX8_counts_134 q134_0 ?_
        refine a_lload dX8_counts_135 rfl ?_
        refine a_aload_n dX8_counts_137 rfl rfl ?_
        refine a_iload dX8_counts_138 rfl ?_
        refine a_aload_n dX8_counts_140 rfl rfl ?_
        refine a_getR dX8_counts_141 fw_RX8_48 rfl rfl (kMod_0 h_r0_3) (rMod_0_20 h_r0_3) ?_
        refine a_iload_n dX8_counts_144 rfl rfl ?_
        refine b_iald dX8_counts_145 (kMod_13 h_r0_3) (nMod_13 h_r0_3) q110_0 ?_
        obtain ⟨q146_0, h⟩ := h
        obtain ⟨q146_1, h⟩ := h
        obtain ⟨q146_2, h⟩ := h
        refine a_callV dX8_counts_146 cw_X8_counts_146 (as := [vI (hg H (a0 + 8) ((24 * x1) + x9)), vI (hg H3 (a0 + 13) x2)]) rfl rfl (kMod_0 h_r0_3) (Nat.le_refl _) (Nat.le_of_ble_eq_true rfl) (nocov rfl) (Nat.le_of_ble_eq_true rfl) (Nat.le_of_ble_eq_true rfl) (CL.mono (c_costAt h_r0_3 q146_0 q146_1 q146_2) (fun r9 H9 h9 => ?_))
        rw [h9.1, h9.2]
        show AW l G mX8_counts (d + 1) 0 0 Q 149 [vR a0, vI x1, vI x2, vI x3, vJ x4, vU, vJ x6, vU, vI x8, vI x9, vI (hg H (a0 + 8) ((24 * x1) + x9))] [vJ (costM (rowM H3 a0) (hg H (a0 + 8) ((24 * x1) + x9)) (hg H3 (a0 + 13) x2)), vJ x4, vI (ior x3 (pw x9)), vI (x2 + 1), vI x1, vR a0] 0 0 H3
        obtain ⟨q149_0, h⟩ := h
        refine a_ladd dX8_counts_149 q149_0 ?_
        refine a_lload dX8_counts_150 rfl ?_
        refine a_callV dX8_counts_152 cw_X8_counts_152 (as := [vI x1, vI (x2 + 1), vI (ior x3 (pw x9)), vJ (x4 + (costM (rowM H3 a0) (hg H (a0 + 8) ((24 * x1) + x9)) (hg H3 (a0 + 13) x2))), vJ x6]) rfl rfl (kMod_0 h_r0_3) (Nat.le_refl _) (Nat.le_of_ble_eq_true rfl) (nocov rfl) (Nat.le_of_ble_eq_true rfl) (Nat.le_of_ble_eq_true rfl) (CL.mono h (fun r9 H4 h => ?_))
        obtain ⟨h_r0_4, e9, h⟩ := h
        rw [e9]
        show AW l G mX8_counts (d + 1) 0 0 Q 155 [vR a0, vI x1, vI x2, vI x3, vJ x4, vU, vJ x6, vU, vI x8, vI x9, vI (hg H (a0 + 8) ((24 * x1) + x9))] [] 0 0 H4
        obtain ⟨q155_0, h⟩ := h
        refine a_iinc dX8_counts_155 rfl (Nat.le_of_ble_eq_true rfl) (by decide) q155_0 (ls' := [vR a0, vI x1, vI x2, vI x3, vJ x4, vU, vJ x6, vU, vI x8, vI (x9 + 1), vI (hg H (a0 + 8) ((24 * x1) + x9))]) rfl ?_
        refine a_goto dX8_counts_158 (tgt := 53) rfl ?_
        exact a_weak (wk_e (wk_e (wk_e (wk_e (wk_e (wk_u (wk_e (wk_u (wk_e (wk_e (wk_u wk_n))))))))))) h
      · replace h := h.2 c83
        refine a_goto dX8_counts_86 (tgt := 155) rfl ?_
        obtain ⟨q155_0, h⟩ := h
        refine a_iinc dX8_counts_155 rfl (Nat.le_of_ble_eq_true rfl) (by decide) q155_0 (ls' := [vR a0, vI x1, vI x2, vI x3, vJ x4, vU, vJ x6, vU, vI x8, vI (x9 + 1), vU]) rfl ?_
        refine a_goto dX8_counts_158 (tgt := 53) rfl ?_
        exact h


theorem dX8_countsAll_0 : decode cX8_countsAll 0 = .ok (.aload_n 0, 1) := by decide +kernel
theorem dX8_countsAll_1 : decode cX8_countsAll 1 = .ok (.invokevirtual 261, 3) := by decide +kernel
theorem dX8_countsAll_4 : decode cX8_countsAll 4 = .ok (.aload_n 0, 1) := by decide +kernel
theorem dX8_countsAll_5 : decode cX8_countsAll 5 = .ok (.iload_n 1, 1) := by decide +kernel
theorem dX8_countsAll_6 : decode cX8_countsAll 6 = .ok (.invokevirtual 247, 3) := by decide +kernel
theorem dX8_countsAll_9 : decode cX8_countsAll 9 = .ok (.lconst 0, 1) := by decide +kernel
theorem dX8_countsAll_10 : decode cX8_countsAll 10 = .ok (.lstore_n 2, 1) := by decide +kernel
theorem dX8_countsAll_11 : decode cX8_countsAll 11 = .ok (.iconst 0, 1) := by decide +kernel
theorem dX8_countsAll_12 : decode cX8_countsAll 12 = .ok (.istore 4, 2) := by decide +kernel
theorem dX8_countsAll_14 : decode cX8_countsAll 14 = .ok (.iload 4, 2) := by decide +kernel
theorem dX8_countsAll_16 : decode cX8_countsAll 16 = .ok (.aload_n 0, 1) := by decide +kernel
theorem dX8_countsAll_17 : decode cX8_countsAll 17 = .ok (.getfield 30, 3) := by decide +kernel
theorem dX8_countsAll_20 : decode cX8_countsAll 20 = .ok (.iload_n 1, 1) := by decide +kernel
theorem dX8_countsAll_21 : decode cX8_countsAll 21 = .ok (.iaload, 1) := by decide +kernel
theorem dX8_countsAll_22 : decode cX8_countsAll 22 = .ok (.invokestatic 218, 3) := by decide +kernel
theorem dX8_countsAll_25 : decode cX8_countsAll 25 = .ok (.if_icmp .ge 39, 3) := by decide +kernel
theorem dX8_countsAll_28 : decode cX8_countsAll 28 = .ok (.aload_n 0, 1) := by decide +kernel
theorem dX8_countsAll_29 : decode cX8_countsAll 29 = .ok (.getfield 36, 3) := by decide +kernel
theorem dX8_countsAll_32 : decode cX8_countsAll 32 = .ok (.bipush 24, 2) := by decide +kernel
theorem dX8_countsAll_34 : decode cX8_countsAll 34 = .ok (.iload_n 1, 1) := by decide +kernel
theorem dX8_countsAll_35 : decode cX8_countsAll 35 = .ok (.imul, 1) := by decide +kernel
theorem dX8_countsAll_36 : decode cX8_countsAll 36 = .ok (.iload 4, 2) := by decide +kernel
theorem dX8_countsAll_38 : decode cX8_countsAll 38 = .ok (.iadd, 1) := by decide +kernel
theorem dX8_countsAll_39 : decode cX8_countsAll 39 = .ok (.iaload, 1) := by decide +kernel
theorem dX8_countsAll_40 : decode cX8_countsAll 40 = .ok (.istore 5, 2) := by decide +kernel
theorem dX8_countsAll_42 : decode cX8_countsAll 42 = .ok (.lload_n 2, 1) := by decide +kernel
theorem dX8_countsAll_43 : decode cX8_countsAll 43 = .ok (.aload_n 0, 1) := by decide +kernel
theorem dX8_countsAll_44 : decode cX8_countsAll 44 = .ok (.iload 5, 2) := by decide +kernel
theorem dX8_countsAll_46 : decode cX8_countsAll 46 = .ok (.aload_n 0, 1) := by decide +kernel
theorem dX8_countsAll_47 : decode cX8_countsAll 47 = .ok (.getfield 39, 3) := by decide +kernel
theorem dX8_countsAll_50 : decode cX8_countsAll 50 = .ok (.iload 5, 2) := by decide +kernel
theorem dX8_countsAll_52 : decode cX8_countsAll 52 = .ok (.iaload, 1) := by decide +kernel
theorem dX8_countsAll_53 : decode cX8_countsAll 53 = .ok (.invokevirtual 236, 3) := by decide +kernel
theorem dX8_countsAll_56 : decode cX8_countsAll 56 = .ok (.ladd, 1) := by decide +kernel
theorem dX8_countsAll_57 : decode cX8_countsAll 57 = .ok (.lstore_n 2, 1) := by decide +kernel
theorem dX8_countsAll_58 : decode cX8_countsAll 58 = .ok (.iinc 4 1, 3) := by decide +kernel
theorem dX8_countsAll_61 : decode cX8_countsAll 61 = .ok (.goto (-47), 3) := by decide +kernel
theorem dX8_countsAll_64 : decode cX8_countsAll 64 = .ok (.aload_n 0, 1) := by decide +kernel
theorem dX8_countsAll_65 : decode cX8_countsAll 65 = .ok (.iconst 0, 1) := by decide +kernel
theorem dX8_countsAll_66 : decode cX8_countsAll 66 = .ok (.putfield 298, 3) := by decide +kernel
theorem dX8_countsAll_69 : decode cX8_countsAll 69 = .ok (.aload_n 0, 1) := by decide +kernel
theorem dX8_countsAll_70 : decode cX8_countsAll 70 = .ok (.iconst 0, 1) := by decide +kernel
theorem dX8_countsAll_71 : decode cX8_countsAll 71 = .ok (.putfield 301, 3) := by decide +kernel
theorem dX8_countsAll_74 : decode cX8_countsAll 74 = .ok (.aload_n 0, 1) := by decide +kernel
theorem dX8_countsAll_75 : decode cX8_countsAll 75 = .ok (.iload_n 1, 1) := by decide +kernel
theorem dX8_countsAll_76 : decode cX8_countsAll 76 = .ok (.iconst 0, 1) := by decide +kernel
theorem dX8_countsAll_77 : decode cX8_countsAll 77 = .ok (.iconst 0, 1) := by decide +kernel
theorem dX8_countsAll_78 : decode cX8_countsAll 78 = .ok (.lconst 0, 1) := by decide +kernel
theorem dX8_countsAll_79 : decode cX8_countsAll 79 = .ok (.lload_n 2, 1) := by decide +kernel
theorem dX8_countsAll_80 : decode cX8_countsAll 80 = .ok (.invokevirtual 304, 3) := by decide +kernel
theorem dX8_countsAll_83 : decode cX8_countsAll 83 = .ok (.return_, 1) := by decide +kernel
set_option maxRecDepth 20000 in
theorem s_X8_countsAll_0 {l : Launch} {G : GT} {d : Nat} {Q : AV → AH → Prop} {H : AH} {a0 x1 : Int} {M : Row} (hW : MW H a0 M) (h : ∀ H1 : AH, only H H1 (pMks a0) → MW H1 a0 M → Made H1 a0 M → CL l G mX8_laysBase d 0 0 [vR a0, vI x1] H1 (fun r9 H2 => Lay LMod H2 a0 ∧ r9 = vV ∧ AW l G mX8_countsAll (d + 1) 0 0 Q 14 [vR a0, vI x1, vJ 0, vU, vI 0, vU] [] 0 0 H2)) (hd : 14 ≤ d := by omega) : AW l G mX8_countsAll (d + 1) 0 0 Q 0 [vR a0, vI x1, vU, vU, vU, vU] [] 0 0 H := by
  refine a_aload_n dX8_countsAll_0 rfl rfl ?_
  refine a_callV dX8_countsAll_1 cw_X8_countsAll_1 (as := []) rfl rfl (kMod_0 hW.1) (Nat.le_refl _) (Nat.le_of_ble_eq_true rfl) (nocov rfl) (Nat.le_of_ble_eq_true rfl) (Nat.le_of_ble_eq_true rfl) (CL.mono (c_makesQ (show MW H a0 M from ⟨hW.1, hW.2.1, hW.2.2⟩) ) (fun r9 H1 h9 => ?_))
  obtain ⟨e9, o_H1, hW_H1, hX_H1⟩ := h9
  rw [e9]
  replace h := h H1 o_H1 hW_H1 hX_H1
  show AW l G mX8_countsAll (d + 1) 0 0 Q 4 [vR a0, vI x1, vU, vU, vU, vU] [] 0 0 H1
  refine a_aload_n dX8_countsAll_4 rfl rfl ?_
  refine a_iload_n dX8_countsAll_5 rfl rfl ?_
  refine a_callV dX8_countsAll_6 cw_X8_countsAll_6 (as := [vI x1]) rfl rfl (kMod_0 hW_H1.1) (Nat.le_refl _) (Nat.le_of_ble_eq_true rfl) (nocov rfl) (Nat.le_of_ble_eq_true rfl) (Nat.le_of_ble_eq_true rfl) (CL.mono h (fun r9 H2 h => ?_))
  obtain ⟨h_r0_2, e9, h⟩ := h
  rw [e9]
  show AW l G mX8_countsAll (d + 1) 0 0 Q 9 [vR a0, vI x1, vU, vU, vU, vU] [] 0 0 H2
  refine a_lconst dX8_countsAll_9 ?_
  show AW l G mX8_countsAll (d + 1) 0 0 Q 10 [vR a0, vI x1, vU, vU, vU, vU] [vJ 0] 0 0 H2
  refine a_lstore_n dX8_countsAll_10 rfl (Nat.le_of_ble_eq_true rfl) (ls' := [vR a0, vI x1, vJ 0, vU, vU, vU]) rfl ?_
  refine a_iconst dX8_countsAll_11 ⟨by decide, by decide⟩ ?_
  refine a_istore dX8_countsAll_12 (Nat.le_of_ble_eq_true rfl) (ls' := [vR a0, vI x1, vJ 0, vU, vI 0, vU]) rfl ?_
  exact h

set_option maxRecDepth 20000 in
theorem s_X8_countsAll_14 {l : Launch} {G : GT} {d : Nat} {Q : AV → AH → Prop} {H : AH} {a0 x1 x2 x4 : Int} {M : Row} (hW : MW H a0 M) (h : (0 ≤ x1 ∧ x1 < 3) ∧ ((min 7 (hg H (a0 + 7) x1)) ≤ x4 → ∀ H1 : AH, H1 = hs H a0 23 0 → ∀ H2 : AH, H2 = hs H1 a0 22 0 → CL l G mX8_counts d 0 0 [vR a0, vI x1, vI 0, vI 0, vJ 0, vJ x2] H2 (fun r9 H3 => Lay LMod H3 a0 ∧ r9 = vV ∧ Q vV H3)) ∧ (x4 < (min 7 (hg H (a0 + 7) x1)) → (-2147483648 ≤ 24 * x1 ∧ 24 * x1 ≤ 2147483647) ∧ (-2147483648 ≤ (24 * x1) + x4 ∧ (24 * x1) + x4 ≤ 2147483647) ∧ (0 ≤ ((24 * x1) + x4) ∧ ((24 * x1) + x4) < 72) ∧ (0 ≤ (hg H (a0 + 9) ((24 * x1) + x4)) ∧ (hg H (a0 + 9) ((24 * x1) + x4)) < 24) ∧ (0 ≤ (hg H (a0 + 9) ((24 * x1) + x4)) ∧ (hg H (a0 + 9) ((24 * x1) + x4)) < M 6) ∧ (0 ≤ (hg H (a0 + 10) (hg H (a0 + 9) ((24 * x1) + x4))) ∧ (hg H (a0 + 10) (hg H (a0 + 9) ((24 * x1) + x4))) ≤ 400000) ∧ (-9223372036854775808 ≤ x2 + (costM M (hg H (a0 + 9) ((24 * x1) + x4)) (hg H (a0 + 10) (hg H (a0 + 9) ((24 * x1) + x4)))) ∧ x2 + (costM M (hg H (a0 + 9) ((24 * x1) + x4)) (hg H (a0 + 10) (hg H (a0 + 9) ((24 * x1) + x4)))) ≤ 9223372036854775807) ∧ (-2147483648 ≤ x4 + 1 ∧ x4 + 1 ≤ 2147483647) ∧ AW l G mX8_countsAll (d + 1) 0 0 Q 14 [vR a0, vI x1, vJ (x2 + (costM M (hg H (a0 + 9) ((24 * x1) + x4)) (hg H (a0 + 10) (hg H (a0 + 9) ((24 * x1) + x4))))), vU, vI (x4 + 1), vU] [] 0 0 H)) (hd : 14 ≤ d := by omega) : AW l G mX8_countsAll (d + 1) 0 0 Q 14 [vR a0, vI x1, vJ x2, vU, vI x4, vU] [] 0 0 H := by
  refine a_iload dX8_countsAll_14 rfl ?_
  refine a_aload_n dX8_countsAll_16 rfl rfl ?_
  refine a_getR dX8_countsAll_17 fw_RX8_30 rfl rfl (kMod_0 hW.1) (rMod_0_14 hW.1) ?_
  refine a_iload_n dX8_countsAll_20 rfl rfl ?_
  obtain ⟨q21_0, h⟩ := h
  refine b_iald dX8_countsAll_21 (kMod_7 hW.1) (nMod_7 hW.1) q21_0 ?_
  refine a_callS dX8_countsAll_22 cw_X8_countsAll_22 (as := [vI (hg H (a0 + 7) x1)]) rfl rfl (Nat.le_refl _) (Nat.le_of_ble_eq_true rfl) (nocov rfl) (Nat.le_of_ble_eq_true rfl) (Nat.le_of_ble_eq_true rfl) (CL.mono (c_windowOf  ) (fun r9 H9 h9 => ?_))
  rw [h9.1, h9.2]
  (try rw [hW.2.1])
  show AW l G mX8_countsAll (d + 1) 0 0 Q 25 [vR a0, vI x1, vJ x2, vU, vI x4, vU] [vI (min 7 (hg H (a0 + 7) x1)), vI x4] 0 0 H
  refine a_icmp_ge dX8_countsAll_25 (tgt := 64) rfl (fun c25 => ?_) (fun c25 => ?_)
  · replace h := h.1 c25
    refine a_aload_n dX8_countsAll_64 rfl rfl ?_
    refine a_iconst dX8_countsAll_65 ⟨by decide, by decide⟩ ?_
    refine a_putI dX8_countsAll_66 fp_RX8_298 rfl rfl (kMod_0 hW.1) ?_
    have h_r0_1 := Lay.wr hW.1 ok_Mod (nrf_fld 23 (kMod_0 hW.1) (by decide) (by decide)) (i := 23) (x := 0)
    generalize e_H1 : hs H a0 23 0 = H1 at h_r0_1 ⊢
    replace h := h H1 e_H1.symm
    have row_H1 := (show rowM H1 a0 = _ from by rw [← e_H1, rowM_ne (by omega), hW.2.1])
    have mk_H1 := (show okM _ ∧ mkd H1 a0 from by rw [← e_H1]; exact ⟨hW.2.2.1, mkd_wr hW.2.2.2 (by omega) (by omega) (by omega)⟩)
    refine a_aload_n dX8_countsAll_69 rfl rfl ?_
    refine a_iconst dX8_countsAll_70 ⟨by decide, by decide⟩ ?_
    refine a_putI dX8_countsAll_71 fp_RX8_301 rfl rfl (kMod_0 h_r0_1) ?_
    have h_r0_2 := Lay.wr h_r0_1 ok_Mod (nrf_fld 22 (kMod_0 h_r0_1) (by decide) (by decide)) (i := 22) (x := 0)
    generalize e_H2 : hs H1 a0 22 0 = H2 at h_r0_2 ⊢
    replace h := h H2 e_H2.symm
    have row_H2 := (show rowM H2 a0 = _ from by rw [← e_H2, rowM_ne (by omega), row_H1])
    have mk_H2 := (show okM _ ∧ mkd H2 a0 from by rw [← e_H2]; exact ⟨mk_H1.1, mkd_wr mk_H1.2 (by omega) (by omega) (by omega)⟩)
    refine a_aload_n dX8_countsAll_74 rfl rfl ?_
    refine a_iload_n dX8_countsAll_75 rfl rfl ?_
    refine a_iconst dX8_countsAll_76 ⟨by decide, by decide⟩ ?_
    refine a_iconst dX8_countsAll_77 ⟨by decide, by decide⟩ ?_
    refine a_lconst dX8_countsAll_78 ?_
    show AW l G mX8_countsAll (d + 1) 0 0 Q 79 [vR a0, vI x1, vJ x2, vU, vI x4, vU] [vJ 0, vI 0, vI 0, vI x1, vR a0] 0 0 H2
    refine a_lload_n dX8_countsAll_79 rfl rfl ?_
    refine a_callV dX8_countsAll_80 cw_X8_countsAll_80 (as := [vI x1, vI 0, vI 0, vJ 0, vJ x2]) rfl rfl (kMod_0 h_r0_2) (Nat.le_refl _) (Nat.le_of_ble_eq_true rfl) (nocov rfl) (Nat.le_of_ble_eq_true rfl) (Nat.le_of_ble_eq_true rfl) (CL.mono h (fun r9 H3 h => ?_))
    obtain ⟨h_r0_3, e9, h⟩ := h
    rw [e9]
    show AW l G mX8_countsAll (d + 1) 0 0 Q 83 [vR a0, vI x1, vJ x2, vU, vI x4, vU] [] 0 0 H3
    exact a_vret dX8_countsAll_83 rfl (Nat.le_of_ble_eq_true rfl) (Nat.le_of_ble_eq_true rfl) h
  · replace h := h.2 c25
    refine a_aload_n dX8_countsAll_28 rfl rfl ?_
    refine a_getR dX8_countsAll_29 fw_RX8_36 rfl rfl (kMod_0 hW.1) (rMod_0_16 hW.1) ?_
    refine a_bipush dX8_countsAll_32 (by decide) ?_
    refine a_iload_n dX8_countsAll_34 rfl rfl ?_
    obtain ⟨q35_0, h⟩ := h
    refine a_imul dX8_countsAll_35 q35_0 ?_
    refine a_iload dX8_countsAll_36 rfl ?_
    obtain ⟨q38_0, h⟩ := h
    refine a_iadd dX8_countsAll_38 q38_0 ?_
    obtain ⟨q39_0, h⟩ := h
    refine b_iald dX8_countsAll_39 (kMod_9 hW.1) (nMod_9 hW.1) q39_0 ?_
    refine a_istore dX8_countsAll_40 (Nat.le_of_ble_eq_true rfl) (ls' := [vR a0, vI x1, vJ x2, vU, vI x4, vI (hg H (a0 + 9) ((24 * x1) + x4))]) rfl ?_
    refine a_lload_n dX8_countsAll_42 rfl rfl ?_
    refine a_aload_n dX8_countsAll_43 rfl rfl ?_
    refine a_iload dX8_countsAll_44 rfl ?_
    refine a_aload_n dX8_countsAll_46 rfl rfl ?_
    refine a_getR dX8_countsAll_47 fw_RX8_39 rfl rfl (kMod_0 hW.1) (rMod_0_17 hW.1) ?_
    refine a_iload dX8_countsAll_50 rfl ?_
    obtain ⟨q52_0, h⟩ := h
    refine b_iald dX8_countsAll_52 (kMod_10 hW.1) (nMod_10 hW.1) q52_0 ?_
    obtain ⟨q53_1, h⟩ := h
    obtain ⟨q53_2, h⟩ := h
    refine a_callV dX8_countsAll_53 cw_X8_countsAll_53 (as := [vI (hg H (a0 + 9) ((24 * x1) + x4)), vI (hg H (a0 + 10) (hg H (a0 + 9) ((24 * x1) + x4)))]) rfl rfl (kMod_0 hW.1) (Nat.le_refl _) (Nat.le_of_ble_eq_true rfl) (nocov rfl) (Nat.le_of_ble_eq_true rfl) (Nat.le_of_ble_eq_true rfl) (CL.mono (c_costAt hW.1 (by rw [hW.2.1]; exact hW.2.2.1) (by rw [hW.2.1]; exact q53_1) q53_2) (fun r9 H9 h9 => ?_))
    rw [h9.1, h9.2]
    (try rw [hW.2.1])
    show AW l G mX8_countsAll (d + 1) 0 0 Q 56 [vR a0, vI x1, vJ x2, vU, vI x4, vI (hg H (a0 + 9) ((24 * x1) + x4))] [vJ (costM M (hg H (a0 + 9) ((24 * x1) + x4)) (hg H (a0 + 10) (hg H (a0 + 9) ((24 * x1) + x4)))), vJ x2] 0 0 H
    obtain ⟨q56_0, h⟩ := h
    refine a_ladd dX8_countsAll_56 q56_0 ?_
    refine a_lstore_n dX8_countsAll_57 rfl (Nat.le_of_ble_eq_true rfl) (ls' := [vR a0, vI x1, vJ (x2 + (costM M (hg H (a0 + 9) ((24 * x1) + x4)) (hg H (a0 + 10) (hg H (a0 + 9) ((24 * x1) + x4))))), vU, vI x4, vI (hg H (a0 + 9) ((24 * x1) + x4))]) rfl ?_
    obtain ⟨q58_0, h⟩ := h
    refine a_iinc dX8_countsAll_58 rfl (Nat.le_of_ble_eq_true rfl) (by decide) q58_0 (ls' := [vR a0, vI x1, vJ (x2 + (costM M (hg H (a0 + 9) ((24 * x1) + x4)) (hg H (a0 + 10) (hg H (a0 + 9) ((24 * x1) + x4))))), vU, vI (x4 + 1), vI (hg H (a0 + 9) ((24 * x1) + x4))]) rfl ?_
    refine a_goto dX8_countsAll_61 (tgt := 14) rfl ?_
    exact a_weak (wk_e (wk_e (wk_e (wk_u (wk_e (wk_u wk_n)))))) h


theorem dX8_allowedSequences_0 : decode cX8_allowedSequences 0 = .ok (.aload_n 0, 1) := by decide +kernel
theorem dX8_allowedSequences_1 : decode cX8_allowedSequences 1 = .ok (.iload_n 1, 1) := by decide +kernel
theorem dX8_allowedSequences_2 : decode cX8_allowedSequences 2 = .ok (.invokevirtual 276, 3) := by decide +kernel
theorem dX8_allowedSequences_5 : decode cX8_allowedSequences 5 = .ok (.ifCond .ne 5, 3) := by decide +kernel
theorem dX8_allowedSequences_8 : decode cX8_allowedSequences 8 = .ok (.iconst 0, 1) := by decide +kernel
theorem dX8_allowedSequences_9 : decode cX8_allowedSequences 9 = .ok (.ireturn, 1) := by decide +kernel
theorem dX8_allowedSequences_10 : decode cX8_allowedSequences 10 = .ok (.aload_n 0, 1) := by decide +kernel
theorem dX8_allowedSequences_11 : decode cX8_allowedSequences 11 = .ok (.iload_n 1, 1) := by decide +kernel
theorem dX8_allowedSequences_12 : decode cX8_allowedSequences 12 = .ok (.invokevirtual 308, 3) := by decide +kernel
theorem dX8_allowedSequences_15 : decode cX8_allowedSequences 15 = .ok (.aload_n 0, 1) := by decide +kernel
theorem dX8_allowedSequences_16 : decode cX8_allowedSequences 16 = .ok (.getfield 298, 3) := by decide +kernel
theorem dX8_allowedSequences_19 : decode cX8_allowedSequences 19 = .ok (.ireturn, 1) := by decide +kernel
set_option maxRecDepth 20000 in
theorem s_X8_allowedSequences_0 {l : Launch} {G : GT} {d : Nat} {Q : AV → AH → Prop} {H : AH} {a0 x1 : Int} {M : Row} (hW : MW H a0 M) (h : (0 ≤ M 5 ∧ M 5 ≤ 3) ∧ ∀ H1 : AH, H1 = hs H a0 5 (1 - bi (decide (0 ≤ x1 ∧ x1 < M 5))) → (0 ≤ x1 ∧ x1 < M 5 → CL l G mX8_countsAll d 0 0 [vR a0, vI x1] H1 (fun r9 H2 => Lay LMod H2 a0 ∧ r9 = vV ∧ Q (vI (hg H2 a0 23)) H2)) ∧ (¬ (0 ≤ x1 ∧ x1 < M 5) → Q (vI 0) H1)) (hd : 1 ≤ d := by omega) : AW l G mX8_allowedSequences (d + 1) 0 0 Q 0 [vR a0, vI x1] [] 0 0 H := by
  refine a_aload_n dX8_allowedSequences_0 rfl rfl ?_
  refine a_iload_n dX8_allowedSequences_1 rfl rfl ?_
  obtain ⟨q2_0, h⟩ := h
  refine a_callV dX8_allowedSequences_2 cw_X8_allowedSequences_2 (as := [vI x1]) rfl rfl (kMod_0 hW.1) (Nat.le_refl _) (Nat.le_of_ble_eq_true rfl) (nocov rfl) (Nat.le_of_ble_eq_true rfl) (Nat.le_of_ble_eq_true rfl) (CL.mono (c_isRunway hW.1 (by rw [hW.2.1]; exact q2_0)) (fun r9 H9 h9 => ?_))
  rw [h9.1, h9.2]
  (try rw [hW.2.1])
  have h_r0_1 := Lay.wr hW.1 ok_Mod (nrf_fld 5 (kMod_0 hW.1) (by decide) (by decide)) (i := 5) (x := (1 - bi (decide (0 ≤ x1 ∧ x1 < M 5))))
  generalize e_H1 : hs H a0 5 (1 - bi (decide (0 ≤ x1 ∧ x1 < M 5))) = H1 at h_r0_1 ⊢
  replace h := h H1 e_H1.symm
  have row_H1 := (show rowM H1 a0 = _ from by rw [← e_H1, rowM_ne (by omega), hW.2.1])
  have mk_H1 := (show okM _ ∧ mkd H1 a0 from by rw [← e_H1]; exact ⟨hW.2.2.1, mkd_wr hW.2.2.2 (by omega) (by omega) (by omega)⟩)
  show AW l G mX8_allowedSequences (d + 1) 0 0 Q 5 [vR a0, vI x1] [vI (bi (decide (0 ≤ x1 ∧ x1 < M 5)))] 0 0 H1
  refine a_if_ne dX8_allowedSequences_5 (tgt := 10) rfl (fun c5 => ?_) (fun c5 => ?_)
  · replace h := h.1 (bi_1 c5)
    refine a_aload_n dX8_allowedSequences_10 rfl rfl ?_
    refine a_iload_n dX8_allowedSequences_11 rfl rfl ?_
    refine a_callV dX8_allowedSequences_12 cw_X8_allowedSequences_12 (as := [vI x1]) rfl rfl (kMod_0 h_r0_1) (Nat.le_refl _) (Nat.le_of_ble_eq_true rfl) (nocov rfl) (Nat.le_of_ble_eq_true rfl) (Nat.le_of_ble_eq_true rfl) (CL.mono h (fun r9 H2 h => ?_))
    obtain ⟨h_r0_2, e9, h⟩ := h
    rw [e9]
    show AW l G mX8_allowedSequences (d + 1) 0 0 Q 15 [vR a0, vI x1] [] 0 0 H2
    refine a_aload_n dX8_allowedSequences_15 rfl rfl ?_
    refine a_getI dX8_allowedSequences_16 fw_RX8_298 rfl rfl (kMod_0 h_r0_2) ?_
    exact a_iret dX8_allowedSequences_19 rfl (Nat.le_of_ble_eq_true rfl) (Nat.le_of_ble_eq_true rfl) h
  · replace h := h.2 (bi_0 c5)
    refine a_iconst dX8_allowedSequences_8 ⟨by decide, by decide⟩ ?_
    exact a_iret dX8_allowedSequences_9 rfl (Nat.le_of_ble_eq_true rfl) (Nat.le_of_ble_eq_true rfl) h


theorem dX8_equalSequences_0 : decode cX8_equalSequences 0 = .ok (.aload_n 0, 1) := by decide +kernel
theorem dX8_equalSequences_1 : decode cX8_equalSequences 1 = .ok (.iload_n 1, 1) := by decide +kernel
theorem dX8_equalSequences_2 : decode cX8_equalSequences 2 = .ok (.invokevirtual 276, 3) := by decide +kernel
theorem dX8_equalSequences_5 : decode cX8_equalSequences 5 = .ok (.ifCond .ne 5, 3) := by decide +kernel
theorem dX8_equalSequences_8 : decode cX8_equalSequences 8 = .ok (.iconst 0, 1) := by decide +kernel
theorem dX8_equalSequences_9 : decode cX8_equalSequences 9 = .ok (.ireturn, 1) := by decide +kernel
theorem dX8_equalSequences_10 : decode cX8_equalSequences 10 = .ok (.aload_n 0, 1) := by decide +kernel
theorem dX8_equalSequences_11 : decode cX8_equalSequences 11 = .ok (.iload_n 1, 1) := by decide +kernel
theorem dX8_equalSequences_12 : decode cX8_equalSequences 12 = .ok (.invokevirtual 308, 3) := by decide +kernel
theorem dX8_equalSequences_15 : decode cX8_equalSequences 15 = .ok (.aload_n 0, 1) := by decide +kernel
theorem dX8_equalSequences_16 : decode cX8_equalSequences 16 = .ok (.getfield 301, 3) := by decide +kernel
theorem dX8_equalSequences_19 : decode cX8_equalSequences 19 = .ok (.ireturn, 1) := by decide +kernel
set_option maxRecDepth 20000 in
theorem s_X8_equalSequences_0 {l : Launch} {G : GT} {d : Nat} {Q : AV → AH → Prop} {H : AH} {a0 x1 : Int} {M : Row} (hW : MW H a0 M) (h : (0 ≤ M 5 ∧ M 5 ≤ 3) ∧ ∀ H1 : AH, H1 = hs H a0 5 (1 - bi (decide (0 ≤ x1 ∧ x1 < M 5))) → (0 ≤ x1 ∧ x1 < M 5 → CL l G mX8_countsAll d 0 0 [vR a0, vI x1] H1 (fun r9 H2 => Lay LMod H2 a0 ∧ r9 = vV ∧ Q (vI (hg H2 a0 22)) H2)) ∧ (¬ (0 ≤ x1 ∧ x1 < M 5) → Q (vI 0) H1)) (hd : 1 ≤ d := by omega) : AW l G mX8_equalSequences (d + 1) 0 0 Q 0 [vR a0, vI x1] [] 0 0 H := by
  refine a_aload_n dX8_equalSequences_0 rfl rfl ?_
  refine a_iload_n dX8_equalSequences_1 rfl rfl ?_
  obtain ⟨q2_0, h⟩ := h
  refine a_callV dX8_equalSequences_2 cw_X8_equalSequences_2 (as := [vI x1]) rfl rfl (kMod_0 hW.1) (Nat.le_refl _) (Nat.le_of_ble_eq_true rfl) (nocov rfl) (Nat.le_of_ble_eq_true rfl) (Nat.le_of_ble_eq_true rfl) (CL.mono (c_isRunway hW.1 (by rw [hW.2.1]; exact q2_0)) (fun r9 H9 h9 => ?_))
  rw [h9.1, h9.2]
  (try rw [hW.2.1])
  have h_r0_1 := Lay.wr hW.1 ok_Mod (nrf_fld 5 (kMod_0 hW.1) (by decide) (by decide)) (i := 5) (x := (1 - bi (decide (0 ≤ x1 ∧ x1 < M 5))))
  generalize e_H1 : hs H a0 5 (1 - bi (decide (0 ≤ x1 ∧ x1 < M 5))) = H1 at h_r0_1 ⊢
  replace h := h H1 e_H1.symm
  have row_H1 := (show rowM H1 a0 = _ from by rw [← e_H1, rowM_ne (by omega), hW.2.1])
  have mk_H1 := (show okM _ ∧ mkd H1 a0 from by rw [← e_H1]; exact ⟨hW.2.2.1, mkd_wr hW.2.2.2 (by omega) (by omega) (by omega)⟩)
  show AW l G mX8_equalSequences (d + 1) 0 0 Q 5 [vR a0, vI x1] [vI (bi (decide (0 ≤ x1 ∧ x1 < M 5)))] 0 0 H1
  refine a_if_ne dX8_equalSequences_5 (tgt := 10) rfl (fun c5 => ?_) (fun c5 => ?_)
  · replace h := h.1 (bi_1 c5)
    refine a_aload_n dX8_equalSequences_10 rfl rfl ?_
    refine a_iload_n dX8_equalSequences_11 rfl rfl ?_
    refine a_callV dX8_equalSequences_12 cw_X8_equalSequences_12 (as := [vI x1]) rfl rfl (kMod_0 h_r0_1) (Nat.le_refl _) (Nat.le_of_ble_eq_true rfl) (nocov rfl) (Nat.le_of_ble_eq_true rfl) (Nat.le_of_ble_eq_true rfl) (CL.mono h (fun r9 H2 h => ?_))
    obtain ⟨h_r0_2, e9, h⟩ := h
    rw [e9]
    show AW l G mX8_equalSequences (d + 1) 0 0 Q 15 [vR a0, vI x1] [] 0 0 H2
    refine a_aload_n dX8_equalSequences_15 rfl rfl ?_
    refine a_getI dX8_equalSequences_16 fw_RX8_301 rfl rfl (kMod_0 h_r0_2) ?_
    exact a_iret dX8_equalSequences_19 rfl (Nat.le_of_ble_eq_true rfl) (Nat.le_of_ble_eq_true rfl) h
  · replace h := h.2 (bi_0 c5)
    refine a_iconst dX8_equalSequences_8 ⟨by decide, by decide⟩ ?_
    exact a_iret dX8_equalSequences_9 rfl (Nat.le_of_ble_eq_true rfl) (Nat.le_of_ble_eq_true rfl) h


theorem dX8_nextTime_0 : decode cX8_nextTime 0 = .ok (.aload_n 0, 1) := by decide +kernel
theorem dX8_nextTime_1 : decode cX8_nextTime 1 = .ok (.invokevirtual 261, 3) := by decide +kernel
theorem dX8_nextTime_4 : decode cX8_nextTime 4 = .ok (.iload_n 1, 1) := by decide +kernel
theorem dX8_nextTime_5 : decode cX8_nextTime 5 = .ok (.istore_n 2, 1) := by decide +kernel
theorem dX8_nextTime_6 : decode cX8_nextTime 6 = .ok (.iconst 0, 1) := by decide +kernel
theorem dX8_nextTime_7 : decode cX8_nextTime 7 = .ok (.istore_n 3, 1) := by decide +kernel
theorem dX8_nextTime_8 : decode cX8_nextTime 8 = .ok (.iload_n 3, 1) := by decide +kernel
theorem dX8_nextTime_9 : decode cX8_nextTime 9 = .ok (.aload_n 0, 1) := by decide +kernel
theorem dX8_nextTime_10 : decode cX8_nextTime 10 = .ok (.getfield 9, 3) := by decide +kernel
theorem dX8_nextTime_13 : decode cX8_nextTime 13 = .ok (.iconst 5, 1) := by decide +kernel
theorem dX8_nextTime_14 : decode cX8_nextTime 14 = .ok (.iaload, 1) := by decide +kernel
theorem dX8_nextTime_15 : decode cX8_nextTime 15 = .ok (.if_icmp .ge 44, 3) := by decide +kernel
theorem dX8_nextTime_18 : decode cX8_nextTime 18 = .ok (.aload_n 0, 1) := by decide +kernel
theorem dX8_nextTime_19 : decode cX8_nextTime 19 = .ok (.getfield 30, 3) := by decide +kernel
theorem dX8_nextTime_22 : decode cX8_nextTime 22 = .ok (.iload_n 3, 1) := by decide +kernel
theorem dX8_nextTime_23 : decode cX8_nextTime 23 = .ok (.iaload, 1) := by decide +kernel
theorem dX8_nextTime_24 : decode cX8_nextTime 24 = .ok (.ifCond .le 29, 3) := by decide +kernel
theorem dX8_nextTime_27 : decode cX8_nextTime 27 = .ok (.iload_n 2, 1) := by decide +kernel
theorem dX8_nextTime_28 : decode cX8_nextTime 28 = .ok (.aload_n 0, 1) := by decide +kernel
theorem dX8_nextTime_29 : decode cX8_nextTime 29 = .ok (.getfield 39, 3) := by decide +kernel
theorem dX8_nextTime_32 : decode cX8_nextTime 32 = .ok (.aload_n 0, 1) := by decide +kernel
theorem dX8_nextTime_33 : decode cX8_nextTime 33 = .ok (.getfield 36, 3) := by decide +kernel
theorem dX8_nextTime_36 : decode cX8_nextTime 36 = .ok (.bipush 24, 2) := by decide +kernel
theorem dX8_nextTime_38 : decode cX8_nextTime 38 = .ok (.iload_n 3, 1) := by decide +kernel
theorem dX8_nextTime_39 : decode cX8_nextTime 39 = .ok (.imul, 1) := by decide +kernel
theorem dX8_nextTime_40 : decode cX8_nextTime 40 = .ok (.iaload, 1) := by decide +kernel
theorem dX8_nextTime_41 : decode cX8_nextTime 41 = .ok (.iaload, 1) := by decide +kernel
theorem dX8_nextTime_42 : decode cX8_nextTime 42 = .ok (.aload_n 0, 1) := by decide +kernel
theorem dX8_nextTime_43 : decode cX8_nextTime 43 = .ok (.getfield 9, 3) := by decide +kernel
theorem dX8_nextTime_46 : decode cX8_nextTime 46 = .ok (.iconst 2, 1) := by decide +kernel
theorem dX8_nextTime_47 : decode cX8_nextTime 47 = .ok (.iaload, 1) := by decide +kernel
theorem dX8_nextTime_48 : decode cX8_nextTime 48 = .ok (.isub, 1) := by decide +kernel
theorem dX8_nextTime_49 : decode cX8_nextTime 49 = .ok (.invokestatic 116, 3) := by decide +kernel
theorem dX8_nextTime_52 : decode cX8_nextTime 52 = .ok (.istore_n 2, 1) := by decide +kernel
theorem dX8_nextTime_53 : decode cX8_nextTime 53 = .ok (.iinc 3 1, 3) := by decide +kernel
theorem dX8_nextTime_56 : decode cX8_nextTime 56 = .ok (.goto (-48), 3) := by decide +kernel
theorem dX8_nextTime_59 : decode cX8_nextTime 59 = .ok (.iload_n 2, 1) := by decide +kernel
theorem dX8_nextTime_60 : decode cX8_nextTime 60 = .ok (.ireturn, 1) := by decide +kernel
set_option maxRecDepth 20000 in
theorem s_X8_nextTime_0 {l : Launch} {G : GT} {d : Nat} {Q : AV → AH → Prop} {H : AH} {a0 x1 : Int} {M : Row} (hW : MW H a0 M) (h : ∀ H1 : AH, only H H1 (pMks a0) → MW H1 a0 M → Made H1 a0 M → AW l G mX8_nextTime (d + 1) 0 0 Q 8 [vR a0, vI x1, vI x1, vI 0] [] 0 0 H1) (hd : 14 ≤ d := by omega) : AW l G mX8_nextTime (d + 1) 0 0 Q 0 [vR a0, vI x1, vU, vU] [] 0 0 H := by
  refine a_aload_n dX8_nextTime_0 rfl rfl ?_
  refine a_callV dX8_nextTime_1 cw_X8_nextTime_1 (as := []) rfl rfl (kMod_0 hW.1) (Nat.le_refl _) (Nat.le_of_ble_eq_true rfl) (nocov rfl) (Nat.le_of_ble_eq_true rfl) (Nat.le_of_ble_eq_true rfl) (CL.mono (c_makesQ (show MW H a0 M from ⟨hW.1, hW.2.1, hW.2.2⟩) ) (fun r9 H1 h9 => ?_))
  obtain ⟨e9, o_H1, hW_H1, hX_H1⟩ := h9
  rw [e9]
  replace h := h H1 o_H1 hW_H1 hX_H1
  show AW l G mX8_nextTime (d + 1) 0 0 Q 4 [vR a0, vI x1, vU, vU] [] 0 0 H1
  refine a_iload_n dX8_nextTime_4 rfl rfl ?_
  refine a_istore_n dX8_nextTime_5 rfl (Nat.le_of_ble_eq_true rfl) (ls' := [vR a0, vI x1, vI x1, vU]) rfl ?_
  refine a_iconst dX8_nextTime_6 ⟨by decide, by decide⟩ ?_
  refine a_istore_n dX8_nextTime_7 rfl (Nat.le_of_ble_eq_true rfl) (ls' := [vR a0, vI x1, vI x1, vI 0]) rfl ?_
  exact h

set_option maxRecDepth 20000 in
theorem s_X8_nextTime_8 {l : Launch} {G : GT} {d : Nat} {Q : AV → AH → Prop} {H : AH} {a0 x1 x2 x3 : Int} {M : Row} (hW : MW H a0 M) (h : ((M 5) ≤ x3 → Q (vI x2) H) ∧ (x3 < (M 5) → (0 ≤ x3 ∧ x3 < 3) ∧ ((hg H (a0 + 7) x3) ≤ 0 → (-2147483648 ≤ x3 + 1 ∧ x3 + 1 ≤ 2147483647) ∧ AW l G mX8_nextTime (d + 1) 0 0 Q 8 [vR a0, vI x1, vI x2, vI (x3 + 1)] [] 0 0 H) ∧ (0 < (hg H (a0 + 7) x3) → (-2147483648 ≤ 24 * x3 ∧ 24 * x3 ≤ 2147483647) ∧ (0 ≤ (24 * x3) ∧ (24 * x3) < 72) ∧ (0 ≤ (hg H (a0 + 9) (24 * x3)) ∧ (hg H (a0 + 9) (24 * x3)) < 24) ∧ (-2147483648 ≤ (hg H (a0 + 10) (hg H (a0 + 9) (24 * x3))) - (M 2) ∧ (hg H (a0 + 10) (hg H (a0 + 9) (24 * x3))) - (M 2) ≤ 2147483647) ∧ (-2147483648 ≤ x3 + 1 ∧ x3 + 1 ≤ 2147483647) ∧ AW l G mX8_nextTime (d + 1) 0 0 Q 8 [vR a0, vI x1, vI (min x2 ((hg H (a0 + 10) (hg H (a0 + 9) (24 * x3))) - (M 2))), vI (x3 + 1)] [] 0 0 H))) (hd : 14 ≤ d := by omega) : AW l G mX8_nextTime (d + 1) 0 0 Q 8 [vR a0, vI x1, vI x2, vI x3] [] 0 0 H := by
  refine a_iload_n dX8_nextTime_8 rfl rfl ?_
  refine a_aload_n dX8_nextTime_9 rfl rfl ?_
  refine a_getR dX8_nextTime_10 fw_RX8_9 rfl rfl (kMod_0 hW.1) (rMod_0_0 hW.1) ?_
  refine a_iconst dX8_nextTime_13 ⟨by decide, by decide⟩ ?_
  refine b_ialdV dX8_nextTime_14 (kMod_1 hW.1) (nMod_1 hW.1) (⟨by decide, by decide⟩) (congrFun hW.2.1 _) ?_
  refine a_icmp_ge dX8_nextTime_15 (tgt := 59) rfl (fun c15 => ?_) (fun c15 => ?_)
  · replace h := h.1 c15
    refine a_iload_n dX8_nextTime_59 rfl rfl ?_
    exact a_iret dX8_nextTime_60 rfl (Nat.le_of_ble_eq_true rfl) (Nat.le_of_ble_eq_true rfl) h
  · replace h := h.2 c15
    refine a_aload_n dX8_nextTime_18 rfl rfl ?_
    refine a_getR dX8_nextTime_19 fw_RX8_30 rfl rfl (kMod_0 hW.1) (rMod_0_14 hW.1) ?_
    refine a_iload_n dX8_nextTime_22 rfl rfl ?_
    obtain ⟨q23_0, h⟩ := h
    refine b_iald dX8_nextTime_23 (kMod_7 hW.1) (nMod_7 hW.1) q23_0 ?_
    refine a_if_le dX8_nextTime_24 (tgt := 53) rfl (fun c24 => ?_) (fun c24 => ?_)
    · replace h := h.1 c24
      obtain ⟨q53_0, h⟩ := h
      refine a_iinc dX8_nextTime_53 rfl (Nat.le_of_ble_eq_true rfl) (by decide) q53_0 (ls' := [vR a0, vI x1, vI x2, vI (x3 + 1)]) rfl ?_
      refine a_goto dX8_nextTime_56 (tgt := 8) rfl ?_
      exact h
    · replace h := h.2 c24
      refine a_iload_n dX8_nextTime_27 rfl rfl ?_
      refine a_aload_n dX8_nextTime_28 rfl rfl ?_
      refine a_getR dX8_nextTime_29 fw_RX8_39 rfl rfl (kMod_0 hW.1) (rMod_0_17 hW.1) ?_
      refine a_aload_n dX8_nextTime_32 rfl rfl ?_
      refine a_getR dX8_nextTime_33 fw_RX8_36 rfl rfl (kMod_0 hW.1) (rMod_0_16 hW.1) ?_
      refine a_bipush dX8_nextTime_36 (by decide) ?_
      refine a_iload_n dX8_nextTime_38 rfl rfl ?_
      obtain ⟨q39_0, h⟩ := h
      refine a_imul dX8_nextTime_39 q39_0 ?_
      obtain ⟨q40_0, h⟩ := h
      refine b_iald dX8_nextTime_40 (kMod_9 hW.1) (nMod_9 hW.1) q40_0 ?_
      obtain ⟨q41_0, h⟩ := h
      refine b_iald dX8_nextTime_41 (kMod_10 hW.1) (nMod_10 hW.1) q41_0 ?_
      refine a_aload_n dX8_nextTime_42 rfl rfl ?_
      refine a_getR dX8_nextTime_43 fw_RX8_9 rfl rfl (kMod_0 hW.1) (rMod_0_0 hW.1) ?_
      refine a_iconst dX8_nextTime_46 ⟨by decide, by decide⟩ ?_
      refine b_ialdV dX8_nextTime_47 (kMod_1 hW.1) (nMod_1 hW.1) (⟨by decide, by decide⟩) (congrFun hW.2.1 _) ?_
      obtain ⟨q48_0, h⟩ := h
      refine a_isub dX8_nextTime_48 q48_0 ?_
      refine a_mmin dX8_nextTime_49 cw_X8_nextTime_49 (Nat.le_of_ble_eq_true rfl) (Nat.le_of_ble_eq_true rfl) (Nat.le_of_ble_eq_true rfl) ?_
      refine a_istore_n dX8_nextTime_52 rfl (Nat.le_of_ble_eq_true rfl) (ls' := [vR a0, vI x1, vI (min x2 ((hg H (a0 + 10) (hg H (a0 + 9) (24 * x3))) - (M 2))), vI x3]) rfl ?_
      obtain ⟨q53_0, h⟩ := h
      refine a_iinc dX8_nextTime_53 rfl (Nat.le_of_ble_eq_true rfl) (by decide) q53_0 (ls' := [vR a0, vI x1, vI (min x2 ((hg H (a0 + 10) (hg H (a0 + 9) (24 * x3))) - (M 2))), vI (x3 + 1)]) rfl ?_
      refine a_goto dX8_nextTime_56 (tgt := 8) rfl ?_
      exact h


theorem dX8_nextDone_0 : decode cX8_nextDone 0 = .ok (.iconst (-1), 1) := by decide +kernel
theorem dX8_nextDone_1 : decode cX8_nextDone 1 = .ok (.istore_n 1, 1) := by decide +kernel
theorem dX8_nextDone_2 : decode cX8_nextDone 2 = .ok (.iconst 0, 1) := by decide +kernel
theorem dX8_nextDone_3 : decode cX8_nextDone 3 = .ok (.istore_n 2, 1) := by decide +kernel
theorem dX8_nextDone_4 : decode cX8_nextDone 4 = .ok (.iload_n 2, 1) := by decide +kernel
theorem dX8_nextDone_5 : decode cX8_nextDone 5 = .ok (.aload_n 0, 1) := by decide +kernel
theorem dX8_nextDone_6 : decode cX8_nextDone 6 = .ok (.getfield 9, 3) := by decide +kernel
theorem dX8_nextDone_9 : decode cX8_nextDone 9 = .ok (.bipush 6, 2) := by decide +kernel
theorem dX8_nextDone_11 : decode cX8_nextDone 11 = .ok (.iaload, 1) := by decide +kernel
theorem dX8_nextDone_12 : decode cX8_nextDone 12 = .ok (.if_icmp .ge 70, 3) := by decide +kernel
theorem dX8_nextDone_15 : decode cX8_nextDone 15 = .ok (.aload_n 0, 1) := by decide +kernel
theorem dX8_nextDone_16 : decode cX8_nextDone 16 = .ok (.iload_n 2, 1) := by decide +kernel
theorem dX8_nextDone_17 : decode cX8_nextDone 17 = .ok (.bipush 7, 2) := by decide +kernel
theorem dX8_nextDone_19 : decode cX8_nextDone 19 = .ok (.invokevirtual 75, 3) := by decide +kernel
theorem dX8_nextDone_22 : decode cX8_nextDone 22 = .ok (.iconst 1, 1) := by decide +kernel
theorem dX8_nextDone_23 : decode cX8_nextDone 23 = .ok (.if_icmp .ne 23, 3) := by decide +kernel
theorem dX8_nextDone_26 : decode cX8_nextDone 26 = .ok (.aload_n 0, 1) := by decide +kernel
theorem dX8_nextDone_27 : decode cX8_nextDone 27 = .ok (.iload_n 2, 1) := by decide +kernel
theorem dX8_nextDone_28 : decode cX8_nextDone 28 = .ok (.bipush 8, 2) := by decide +kernel
theorem dX8_nextDone_30 : decode cX8_nextDone 30 = .ok (.invokevirtual 75, 3) := by decide +kernel
theorem dX8_nextDone_33 : decode cX8_nextDone 33 = .ok (.aload_n 0, 1) := by decide +kernel
theorem dX8_nextDone_34 : decode cX8_nextDone 34 = .ok (.getfield 9, 3) := by decide +kernel
theorem dX8_nextDone_37 : decode cX8_nextDone 37 = .ok (.iconst 0, 1) := by decide +kernel
theorem dX8_nextDone_38 : decode cX8_nextDone 38 = .ok (.iaload, 1) := by decide +kernel
theorem dX8_nextDone_39 : decode cX8_nextDone 39 = .ok (.if_icmp .gt 7, 3) := by decide +kernel
theorem dX8_nextDone_42 : decode cX8_nextDone 42 = .ok (.iconst 1, 1) := by decide +kernel
theorem dX8_nextDone_43 : decode cX8_nextDone 43 = .ok (.goto 4, 3) := by decide +kernel
theorem dX8_nextDone_46 : decode cX8_nextDone 46 = .ok (.iconst 0, 1) := by decide +kernel
theorem dX8_nextDone_47 : decode cX8_nextDone 47 = .ok (.istore_n 3, 1) := by decide +kernel
theorem dX8_nextDone_48 : decode cX8_nextDone 48 = .ok (.iload_n 3, 1) := by decide +kernel
theorem dX8_nextDone_49 : decode cX8_nextDone 49 = .ok (.ifCond .eq 27, 3) := by decide +kernel
theorem dX8_nextDone_52 : decode cX8_nextDone 52 = .ok (.iload_n 1, 1) := by decide +kernel
theorem dX8_nextDone_53 : decode cX8_nextDone 53 = .ok (.iconst (-1), 1) := by decide +kernel
theorem dX8_nextDone_54 : decode cX8_nextDone 54 = .ok (.if_icmp .eq 20, 3) := by decide +kernel
theorem dX8_nextDone_57 : decode cX8_nextDone 57 = .ok (.aload_n 0, 1) := by decide +kernel
theorem dX8_nextDone_58 : decode cX8_nextDone 58 = .ok (.iload_n 2, 1) := by decide +kernel
theorem dX8_nextDone_59 : decode cX8_nextDone 59 = .ok (.bipush 8, 2) := by decide +kernel
theorem dX8_nextDone_61 : decode cX8_nextDone 61 = .ok (.invokevirtual 75, 3) := by decide +kernel
theorem dX8_nextDone_64 : decode cX8_nextDone 64 = .ok (.aload_n 0, 1) := by decide +kernel
theorem dX8_nextDone_65 : decode cX8_nextDone 65 = .ok (.iload_n 1, 1) := by decide +kernel
theorem dX8_nextDone_66 : decode cX8_nextDone 66 = .ok (.bipush 8, 2) := by decide +kernel
theorem dX8_nextDone_68 : decode cX8_nextDone 68 = .ok (.invokevirtual 75, 3) := by decide +kernel
theorem dX8_nextDone_71 : decode cX8_nextDone 71 = .ok (.if_icmp .ge 5, 3) := by decide +kernel
theorem dX8_nextDone_74 : decode cX8_nextDone 74 = .ok (.iload_n 2, 1) := by decide +kernel
theorem dX8_nextDone_75 : decode cX8_nextDone 75 = .ok (.istore_n 1, 1) := by decide +kernel
theorem dX8_nextDone_76 : decode cX8_nextDone 76 = .ok (.iinc 2 1, 3) := by decide +kernel
theorem dX8_nextDone_79 : decode cX8_nextDone 79 = .ok (.goto (-75), 3) := by decide +kernel
theorem dX8_nextDone_82 : decode cX8_nextDone 82 = .ok (.iload_n 1, 1) := by decide +kernel
theorem dX8_nextDone_83 : decode cX8_nextDone 83 = .ok (.ireturn, 1) := by decide +kernel
set_option maxRecDepth 20000 in
theorem s_X8_nextDone_0 {l : Launch} {G : GT} {d : Nat} {Q : AV → AH → Prop} {H : AH} {a0 : Int} {M : Row} (hW : MW H a0 M) (h : AW l G mX8_nextDone (d + 1) 0 0 Q 4 [vR a0, vI (-1), vI 0, vU] [] 0 0 H) (hd : 1 ≤ d := by omega) : AW l G mX8_nextDone (d + 1) 0 0 Q 0 [vR a0, vU, vU, vU] [] 0 0 H := by
  refine a_iconst dX8_nextDone_0 ⟨by decide, by decide⟩ ?_
  refine a_istore_n dX8_nextDone_1 rfl (Nat.le_of_ble_eq_true rfl) (ls' := [vR a0, vI (-1), vU, vU]) rfl ?_
  refine a_iconst dX8_nextDone_2 ⟨by decide, by decide⟩ ?_
  refine a_istore_n dX8_nextDone_3 rfl (Nat.le_of_ble_eq_true rfl) (ls' := [vR a0, vI (-1), vI 0, vU]) rfl ?_
  exact h

set_option maxRecDepth 20000 in
theorem s_X8_nextDone_4 {l : Launch} {G : GT} {d : Nat} {Q : AV → AH → Prop} {H : AH} {a0 x1 x2 : Int} {M : Row} (hW : MW H a0 M) (h : ((M 6) ≤ x2 → Q (vI x1) H) ∧ (x2 < (M 6) → (0 ≤ x2 ∧ x2 < 24) ∧ (¬ (ofM M x2 7) = 1 → (-2147483648 ≤ x2 + 1 ∧ x2 + 1 ≤ 2147483647) ∧ AW l G mX8_nextDone (d + 1) 0 0 Q 4 [vR a0, vI x1, vI (x2 + 1), vU] [] 0 0 H) ∧ ((ofM M x2 7) = 1 → ((M 0) < (ofM M x2 8) → (-2147483648 ≤ x2 + 1 ∧ x2 + 1 ≤ 2147483647) ∧ AW l G mX8_nextDone (d + 1) 0 0 Q 4 [vR a0, vI x1, vI (x2 + 1), vU] [] 0 0 H) ∧ ((ofM M x2 8) ≤ (M 0) → (x1 = (-1) → (-2147483648 ≤ x2 + 1 ∧ x2 + 1 ≤ 2147483647) ∧ AW l G mX8_nextDone (d + 1) 0 0 Q 4 [vR a0, vI x2, vI (x2 + 1), vU] [] 0 0 H) ∧ (¬ x1 = (-1) → (0 ≤ x1 ∧ x1 < 24) ∧ ((ofM M x1 8) ≤ (ofM M x2 8) → (-2147483648 ≤ x2 + 1 ∧ x2 + 1 ≤ 2147483647) ∧ AW l G mX8_nextDone (d + 1) 0 0 Q 4 [vR a0, vI x1, vI (x2 + 1), vU] [] 0 0 H) ∧ ((ofM M x2 8) < (ofM M x1 8) → (-2147483648 ≤ x2 + 1 ∧ x2 + 1 ≤ 2147483647) ∧ AW l G mX8_nextDone (d + 1) 0 0 Q 4 [vR a0, vI x2, vI (x2 + 1), vU] [] 0 0 H)))))) (hd : 1 ≤ d := by omega) : AW l G mX8_nextDone (d + 1) 0 0 Q 4 [vR a0, vI x1, vI x2, vU] [] 0 0 H := by
  refine a_iload_n dX8_nextDone_4 rfl rfl ?_
  refine a_aload_n dX8_nextDone_5 rfl rfl ?_
  refine a_getR dX8_nextDone_6 fw_RX8_9 rfl rfl (kMod_0 hW.1) (rMod_0_0 hW.1) ?_
  refine a_bipush dX8_nextDone_9 (by decide) ?_
  refine b_ialdV dX8_nextDone_11 (kMod_1 hW.1) (nMod_1 hW.1) (⟨by decide, by decide⟩) (congrFun hW.2.1 _) ?_
  refine a_icmp_ge dX8_nextDone_12 (tgt := 82) rfl (fun c12 => ?_) (fun c12 => ?_)
  · replace h := h.1 c12
    refine a_iload_n dX8_nextDone_82 rfl rfl ?_
    exact a_iret dX8_nextDone_83 rfl (Nat.le_of_ble_eq_true rfl) (Nat.le_of_ble_eq_true rfl) h
  · replace h := h.2 c12
    refine a_aload_n dX8_nextDone_15 rfl rfl ?_
    refine a_iload_n dX8_nextDone_16 rfl rfl ?_
    refine a_bipush dX8_nextDone_17 (by decide) ?_
    obtain ⟨q19_0, h⟩ := h
    refine a_callV dX8_nextDone_19 cw_X8_nextDone_19 (as := [vI x2, vI 7]) rfl rfl (kMod_0 hW.1) (Nat.le_refl _) (Nat.le_of_ble_eq_true rfl) (nocov rfl) (Nat.le_of_ble_eq_true rfl) (Nat.le_of_ble_eq_true rfl) (CL.mono (c_of hW.1 ⟨q19_0.1, q19_0.2, by decide, by decide⟩) (fun r9 H9 h9 => ?_))
    rw [h9.1, h9.2]
    (try rw [hW.2.1])
    show AW l G mX8_nextDone (d + 1) 0 0 Q 22 [vR a0, vI x1, vI x2, vU] [vI (ofM M x2 7)] 0 0 H
    refine a_iconst dX8_nextDone_22 ⟨by decide, by decide⟩ ?_
    refine a_icmp_ne dX8_nextDone_23 (tgt := 46) rfl (fun c23 => ?_) (fun c23 => ?_)
    · replace h := h.1 c23
      refine a_iconst dX8_nextDone_46 ⟨by decide, by decide⟩ ?_
      refine a_istore_n dX8_nextDone_47 rfl (Nat.le_of_ble_eq_true rfl) (ls' := [vR a0, vI x1, vI x2, vI 0]) rfl ?_
      refine a_iload_n dX8_nextDone_48 rfl rfl ?_
      refine a_if_eq dX8_nextDone_49 (tgt := 76) rfl (fun _ => ?_) (fun c9 => absurd c9 (by decide))
      obtain ⟨q76_0, h⟩ := h
      refine a_iinc dX8_nextDone_76 rfl (Nat.le_of_ble_eq_true rfl) (by decide) q76_0 (ls' := [vR a0, vI x1, vI (x2 + 1), vI 0]) rfl ?_
      refine a_goto dX8_nextDone_79 (tgt := 4) rfl ?_
      exact a_weak (wk_e (wk_e (wk_e (wk_u wk_n)))) h
    · replace h := h.2 c23
      refine a_aload_n dX8_nextDone_26 rfl rfl ?_
      refine a_iload_n dX8_nextDone_27 rfl rfl ?_
      refine a_bipush dX8_nextDone_28 (by decide) ?_
      refine a_callV dX8_nextDone_30 cw_X8_nextDone_30 (as := [vI x2, vI 8]) rfl rfl (kMod_0 hW.1) (Nat.le_refl _) (Nat.le_of_ble_eq_true rfl) (nocov rfl) (Nat.le_of_ble_eq_true rfl) (Nat.le_of_ble_eq_true rfl) (CL.mono (c_of hW.1 ⟨q19_0.1, q19_0.2, by decide, by decide⟩) (fun r9 H9 h9 => ?_))
      rw [h9.1, h9.2]
      (try rw [hW.2.1])
      show AW l G mX8_nextDone (d + 1) 0 0 Q 33 [vR a0, vI x1, vI x2, vU] [vI (ofM M x2 8)] 0 0 H
      refine a_aload_n dX8_nextDone_33 rfl rfl ?_
      refine a_getR dX8_nextDone_34 fw_RX8_9 rfl rfl (kMod_0 hW.1) (rMod_0_0 hW.1) ?_
      refine a_iconst dX8_nextDone_37 ⟨by decide, by decide⟩ ?_
      refine b_ialdV dX8_nextDone_38 (kMod_1 hW.1) (nMod_1 hW.1) (⟨by decide, by decide⟩) (congrFun hW.2.1 _) ?_
      refine a_icmp_gt dX8_nextDone_39 (tgt := 46) rfl (fun c39 => ?_) (fun c39 => ?_)
      · replace h := h.1 c39
        refine a_iconst dX8_nextDone_46 ⟨by decide, by decide⟩ ?_
        refine a_istore_n dX8_nextDone_47 rfl (Nat.le_of_ble_eq_true rfl) (ls' := [vR a0, vI x1, vI x2, vI 0]) rfl ?_
        refine a_iload_n dX8_nextDone_48 rfl rfl ?_
        refine a_if_eq dX8_nextDone_49 (tgt := 76) rfl (fun _ => ?_) (fun c9 => absurd c9 (by decide))
        obtain ⟨q76_0, h⟩ := h
        refine a_iinc dX8_nextDone_76 rfl (Nat.le_of_ble_eq_true rfl) (by decide) q76_0 (ls' := [vR a0, vI x1, vI (x2 + 1), vI 0]) rfl ?_
        refine a_goto dX8_nextDone_79 (tgt := 4) rfl ?_
        exact a_weak (wk_e (wk_e (wk_e (wk_u wk_n)))) h
      · replace h := h.2 c39
        refine a_iconst dX8_nextDone_42 ⟨by decide, by decide⟩ ?_
        refine a_goto dX8_nextDone_43 (tgt := 47) rfl ?_
        refine a_istore_n dX8_nextDone_47 rfl (Nat.le_of_ble_eq_true rfl) (ls' := [vR a0, vI x1, vI x2, vI 1]) rfl ?_
        refine a_iload_n dX8_nextDone_48 rfl rfl ?_
        refine a_if_eq dX8_nextDone_49 (tgt := 76) rfl (fun c9 => absurd c9 (by decide)) (fun _ => ?_)
        refine a_iload_n dX8_nextDone_52 rfl rfl ?_
        refine a_iconst dX8_nextDone_53 ⟨by decide, by decide⟩ ?_
        refine a_icmp_eq dX8_nextDone_54 (tgt := 74) rfl (fun c54 => ?_) (fun c54 => ?_)
        · replace h := h.1 c54
          refine a_iload_n dX8_nextDone_74 rfl rfl ?_
          refine a_istore_n dX8_nextDone_75 rfl (Nat.le_of_ble_eq_true rfl) (ls' := [vR a0, vI x2, vI x2, vI 1]) rfl ?_
          obtain ⟨q76_0, h⟩ := h
          refine a_iinc dX8_nextDone_76 rfl (Nat.le_of_ble_eq_true rfl) (by decide) q76_0 (ls' := [vR a0, vI x2, vI (x2 + 1), vI 1]) rfl ?_
          refine a_goto dX8_nextDone_79 (tgt := 4) rfl ?_
          exact a_weak (wk_e (wk_e (wk_e (wk_u wk_n)))) h
        · replace h := h.2 c54
          refine a_aload_n dX8_nextDone_57 rfl rfl ?_
          refine a_iload_n dX8_nextDone_58 rfl rfl ?_
          refine a_bipush dX8_nextDone_59 (by decide) ?_
          refine a_callV dX8_nextDone_61 cw_X8_nextDone_61 (as := [vI x2, vI 8]) rfl rfl (kMod_0 hW.1) (Nat.le_refl _) (Nat.le_of_ble_eq_true rfl) (nocov rfl) (Nat.le_of_ble_eq_true rfl) (Nat.le_of_ble_eq_true rfl) (CL.mono (c_of hW.1 ⟨q19_0.1, q19_0.2, by decide, by decide⟩) (fun r9 H9 h9 => ?_))
          rw [h9.1, h9.2]
          (try rw [hW.2.1])
          show AW l G mX8_nextDone (d + 1) 0 0 Q 64 [vR a0, vI x1, vI x2, vI 1] [vI (ofM M x2 8)] 0 0 H
          refine a_aload_n dX8_nextDone_64 rfl rfl ?_
          refine a_iload_n dX8_nextDone_65 rfl rfl ?_
          refine a_bipush dX8_nextDone_66 (by decide) ?_
          obtain ⟨q68_0, h⟩ := h
          refine a_callV dX8_nextDone_68 cw_X8_nextDone_68 (as := [vI x1, vI 8]) rfl rfl (kMod_0 hW.1) (Nat.le_refl _) (Nat.le_of_ble_eq_true rfl) (nocov rfl) (Nat.le_of_ble_eq_true rfl) (Nat.le_of_ble_eq_true rfl) (CL.mono (c_of hW.1 ⟨q68_0.1, q68_0.2, by decide, by decide⟩) (fun r9 H9 h9 => ?_))
          rw [h9.1, h9.2]
          (try rw [hW.2.1])
          show AW l G mX8_nextDone (d + 1) 0 0 Q 71 [vR a0, vI x1, vI x2, vI 1] [vI (ofM M x1 8), vI (ofM M x2 8)] 0 0 H
          refine a_icmp_ge dX8_nextDone_71 (tgt := 76) rfl (fun c71 => ?_) (fun c71 => ?_)
          · replace h := h.1 c71
            obtain ⟨q76_0, h⟩ := h
            refine a_iinc dX8_nextDone_76 rfl (Nat.le_of_ble_eq_true rfl) (by decide) q76_0 (ls' := [vR a0, vI x1, vI (x2 + 1), vI 1]) rfl ?_
            refine a_goto dX8_nextDone_79 (tgt := 4) rfl ?_
            exact a_weak (wk_e (wk_e (wk_e (wk_u wk_n)))) h
          · replace h := h.2 c71
            refine a_iload_n dX8_nextDone_74 rfl rfl ?_
            refine a_istore_n dX8_nextDone_75 rfl (Nat.le_of_ble_eq_true rfl) (ls' := [vR a0, vI x2, vI x2, vI 1]) rfl ?_
            obtain ⟨q76_0, h⟩ := h
            refine a_iinc dX8_nextDone_76 rfl (Nat.le_of_ble_eq_true rfl) (by decide) q76_0 (ls' := [vR a0, vI x2, vI (x2 + 1), vI 1]) rfl ?_
            refine a_goto dX8_nextDone_79 (tgt := 4) rfl ?_
            exact a_weak (wk_e (wk_e (wk_e (wk_u wk_n)))) h


