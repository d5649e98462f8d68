theorem dX7_allowedSequences_0 : decode cX7_allowedSequences 0 = .ok (.aload_n 0, 1) := by decide +kernel
theorem dX7_allowedSequences_1 : decode cX7_allowedSequences 1 = .ok (.iload_n 1, 1) := by decide +kernel
theorem dX7_allowedSequences_2 : decode cX7_allowedSequences 2 = .ok (.invokevirtual 160, 3) := by decide +kernel
theorem dX7_allowedSequences_5 : decode cX7_allowedSequences 5 = .ok (.aload_n 0, 1) := by decide +kernel
theorem dX7_allowedSequences_6 : decode cX7_allowedSequences 6 = .ok (.getfield 19, 3) := by decide +kernel
theorem dX7_allowedSequences_9 : decode cX7_allowedSequences 9 = .ok (.aload_n 0, 1) := by decide +kernel
theorem dX7_allowedSequences_10 : decode cX7_allowedSequences 10 = .ok (.getfield 26, 3) := by decide +kernel
theorem dX7_allowedSequences_13 : decode cX7_allowedSequences 13 = .ok (.iload_n 1, 1) := by decide +kernel
theorem dX7_allowedSequences_14 : decode cX7_allowedSequences 14 = .ok (.invokevirtual 236, 3) := by decide +kernel
theorem dX7_allowedSequences_17 : decode cX7_allowedSequences 17 = .ok (.ireturn, 1) := by decide +kernel
set_option maxRecDepth 20000 in
theorem s_X7_allowedSequences_0 {l : Launch} {G : GT} {d : Nat} {Q : AV → AH → Prop} {H : AH} {a0 x1 : Int} (hG : GX l G) {M : Row} (hS : SK H (a0 + 20) M) (h_r0 : Lay LRun H a0) (h : (¬ (rl M x1) → Q (vT 1) H) ∧ (rl M x1 → CL l G mX2_countAllowed d 0 0 [vR (a0 + 3), vR (a0 + 20), vI x1] H (fun r9 H1 => Lay LRun H1 a0 ∧ SK H1 (a0 + 20) M ∧ ∃ y1 : Int, r9 = vI y1 ∧ Q (vI y1) H1))) (hd : 6 ≤ d := by omega) : AW l G mX7_allowedSequences (d + 1) 4 24 Q 0 [vR a0, vI x1] [] 0 0 H := by
  refine a_aload_n dX7_allowedSequences_0 rfl rfl ?_
  refine a_iload_n dX7_allowedSequences_1 rfl rfl ?_
  refine a_callV dX7_allowedSequences_2 cw_X7_allowedSequences_2 (as := [vI x1]) rfl rfl (kRun_0 h_r0) (Nat.le_refl _) (Nat.le_of_ble_eq_true rfl) (nocov rfl) (Nat.le_of_ble_eq_true rfl) (Nat.le_of_ble_eq_true rfl) (CL.mono (k_checkRunway hG h_r0 hS) (fun r9 H9 h9 => ?_))
  obtain ⟨h8, h9⟩ := h9
  rw [h8]
  rcases h9 with ⟨c2, e9⟩ | ⟨c2, e9⟩
  · rw [e9]; exact h.1 c2
  rw [e9]
  replace h := h.2 c2
  show AW l G mX7_allowedSequences (d + 1) 4 24 Q 5 [vR a0, vI x1] [] 1 6 H
  refine a_aload_n dX7_allowedSequences_5 rfl rfl ?_
  refine a_getR dX7_allowedSequences_6 fw_RX7_19 rfl rfl (kRun_0 h_r0) (rRun_0_1 h_r0) ?_
  refine a_aload_n dX7_allowedSequences_9 rfl rfl ?_
  refine a_getR dX7_allowedSequences_10 fw_RX7_26 rfl rfl (kRun_0 h_r0) (rRun_0_2 h_r0) ?_
  refine a_iload_n dX7_allowedSequences_13 rfl rfl ?_
  refine a_callV dX7_allowedSequences_14 cw_X7_allowedSequences_14 (as := [vR (a0 + 20), vI x1]) rfl rfl (kRun_3 h_r0) (Nat.le_refl _) (Nat.le_of_ble_eq_true rfl) (nocov rfl) (Nat.le_of_ble_eq_true rfl) (Nat.le_of_ble_eq_true rfl) (CL.mono h (fun r9 H1 h => ?_))
  obtain ⟨h_r0_1, hSr0_20_1, y1, e9, h⟩ := h
  rw [e9]
  show AW l G mX7_allowedSequences (d + 1) 4 24 Q 17 [vR a0, vI x1] [vI y1] 1 6 H1
  exact a_iret dX7_allowedSequences_17 rfl (Nat.le_of_ble_eq_true rfl) (Nat.le_of_ble_eq_true rfl) h


