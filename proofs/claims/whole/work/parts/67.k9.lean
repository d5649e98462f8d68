theorem dX7_balance_0 : decode cX7_balance 0 = .ok (.iconst 0, 1) := by decide +kernel
theorem dX7_balance_1 : decode cX7_balance 1 = .ok (.istore_n 1, 1) := by decide +kernel
theorem dX7_balance_2 : decode cX7_balance 2 = .ok (.iload_n 1, 1) := by decide +kernel
theorem dX7_balance_3 : decode cX7_balance 3 = .ok (.bipush 10, 2) := by decide +kernel
theorem dX7_balance_5 : decode cX7_balance 5 = .ok (.if_icmp .ge 16, 3) := by decide +kernel
theorem dX7_balance_8 : decode cX7_balance 8 = .ok (.aload_n 0, 1) := by decide +kernel
theorem dX7_balance_9 : decode cX7_balance 9 = .ok (.invokevirtual 271, 3) := by decide +kernel
theorem dX7_balance_12 : decode cX7_balance 12 = .ok (.ifCond .eq 9, 3) := by decide +kernel
theorem dX7_balance_15 : decode cX7_balance 15 = .ok (.iinc 1 1, 3) := by decide +kernel
theorem dX7_balance_18 : decode cX7_balance 18 = .ok (.goto (-16), 3) := by decide +kernel
theorem dX7_balance_21 : decode cX7_balance 21 = .ok (.iload_n 1, 1) := by decide +kernel
theorem dX7_balance_22 : decode cX7_balance 22 = .ok (.ireturn, 1) := by decide +kernel
set_option maxRecDepth 20000 in
theorem s_X7_balance_0 {l : Launch} {G : GT} {d : Nat} {Q : AV → AH → Prop} {H : AH} {a0 : Int} {M : Row} (hS : SK H (a0 + 20) M) (h_r0 : Lay LRun H a0) (h : AW l G mX7_balance (d + 1) 0 0 Q 2 [vR a0, vI 0] [] 0 0 H) : AW l G mX7_balance (d + 1) 0 0 Q 0 [vR a0, vU] [] 0 0 H := by
  refine a_iconst dX7_balance_0 ⟨by decide, by decide⟩ ?_
  refine a_istore_n dX7_balance_1 rfl (Nat.le_of_ble_eq_true rfl) (ls' := [vR a0, vI 0]) rfl ?_
  exact h

set_option maxRecDepth 20000 in
theorem s_X7_balance_2 {l : Launch} {G : GT} {d : Nat} {Q : AV → AH → Prop} {H : AH} {a0 x1 : Int} {M : Row} (hS : SK H (a0 + 20) M) (h_r0 : Lay LRun H a0) (h : (10 ≤ x1 → Q (vI x1) H) ∧ (x1 < 10 → CL l G mX7_moveBest d 0 0 [vR a0] H (fun r9 H1 => ∃ M1 : Row, Lay LRun H1 a0 ∧ SK H1 (a0 + 20) M1 ∧ ∃ y1 : Int, r9 = vI y1 ∧ (y1 = 0 → Q (vI x1) H1) ∧ (¬ y1 = 0 → (-2147483648 ≤ x1 + 1 ∧ x1 + 1 ≤ 2147483647) ∧ AW l G mX7_balance (d + 1) 0 0 Q 2 [vR a0, vI (x1 + 1)] [] 0 0 H1)))) : AW l G mX7_balance (d + 1) 0 0 Q 2 [vR a0, vI x1] [] 0 0 H := by
  refine a_iload_n dX7_balance_2 rfl rfl ?_
  refine a_bipush dX7_balance_3 (by decide) ?_
  refine a_icmp_ge dX7_balance_5 (tgt := 21) rfl (fun c5 => ?_) (fun c5 => ?_)
  · replace h := h.1 c5
    refine a_iload_n dX7_balance_21 rfl rfl ?_
    exact a_iret dX7_balance_22 rfl (Nat.le_of_ble_eq_true rfl) (Nat.le_of_ble_eq_true rfl) h
  · replace h := h.2 c5
    refine a_aload_n dX7_balance_8 rfl rfl ?_
    refine a_callV dX7_balance_9 cw_X7_balance_9 (as := []) rfl rfl (kRun_0 h_r0) (Nat.le_refl _) (Nat.le_of_ble_eq_true rfl) (nocov rfl) (Nat.le_of_ble_eq_true rfl) (Nat.le_of_ble_eq_true rfl) (CL.mono h (fun r9 H1 h => ?_))
    obtain ⟨M1, h_r0_1, hSr0_20_1, y1, e9, h⟩ := h
    rw [e9]
    show AW l G mX7_balance (d + 1) 0 0 Q 12 [vR a0, vI x1] [vI y1] 0 0 H1
    refine a_if_eq dX7_balance_12 (tgt := 21) rfl (fun c12 => ?_) (fun c12 => ?_)
    · replace h := h.1 c12
      refine a_iload_n dX7_balance_21 rfl rfl ?_
      exact a_iret dX7_balance_22 rfl (Nat.le_of_ble_eq_true rfl) (Nat.le_of_ble_eq_true rfl) h
    · replace h := h.2 c12
      obtain ⟨q15_0, h⟩ := h
      refine a_iinc dX7_balance_15 rfl (Nat.le_of_ble_eq_true rfl) (by decide) q15_0 (ls' := [vR a0, vI (x1 + 1)]) rfl ?_
      refine a_goto dX7_balance_18 (tgt := 2) rfl ?_
      exact h


theorem dX7_outcome_0 : decode cX7_outcome 0 = .ok (.iload_n 1, 1) := by decide +kernel
theorem dX7_outcome_1 : decode cX7_outcome 1 = .ok (.ifCond .ne 11, 3) := by decide +kernel
theorem dX7_outcome_4 : decode cX7_outcome 4 = .ok (.aload_n 0, 1) := by decide +kernel
theorem dX7_outcome_5 : decode cX7_outcome 5 = .ok (.getfield 30, 3) := by decide +kernel
theorem dX7_outcome_8 : decode cX7_outcome 8 = .ok (.getfield 251, 3) := by decide +kernel
theorem dX7_outcome_11 : decode cX7_outcome 11 = .ok (.ireturn, 1) := by decide +kernel
theorem dX7_outcome_12 : decode cX7_outcome 12 = .ok (.aload_n 0, 1) := by decide +kernel
theorem dX7_outcome_13 : decode cX7_outcome 13 = .ok (.getfield 19, 3) := by decide +kernel
theorem dX7_outcome_16 : decode cX7_outcome 16 = .ok (.aload_n 0, 1) := by decide +kernel
theorem dX7_outcome_17 : decode cX7_outcome 17 = .ok (.getfield 30, 3) := by decide +kernel
theorem dX7_outcome_20 : decode cX7_outcome 20 = .ok (.invokevirtual 225, 3) := by decide +kernel
theorem dX7_outcome_23 : decode cX7_outcome 23 = .ok (.iload_n 1, 1) := by decide +kernel
theorem dX7_outcome_24 : decode cX7_outcome 24 = .ok (.iconst 2, 1) := by decide +kernel
theorem dX7_outcome_25 : decode cX7_outcome 25 = .ok (.if_icmp .ne 13, 3) := by decide +kernel
theorem dX7_outcome_28 : decode cX7_outcome 28 = .ok (.aload_n 0, 1) := by decide +kernel
theorem dX7_outcome_29 : decode cX7_outcome 29 = .ok (.getfield 30, 3) := by decide +kernel
theorem dX7_outcome_32 : decode cX7_outcome 32 = .ok (.invokevirtual 232, 3) := by decide +kernel
theorem dX7_outcome_35 : decode cX7_outcome 35 = .ok (.goto 11, 3) := by decide +kernel
theorem dX7_outcome_38 : decode cX7_outcome 38 = .ok (.aload_n 0, 1) := by decide +kernel
theorem dX7_outcome_39 : decode cX7_outcome 39 = .ok (.getfield 30, 3) := by decide +kernel
theorem dX7_outcome_42 : decode cX7_outcome 42 = .ok (.invokevirtual 228, 3) := by decide +kernel
theorem dX7_outcome_45 : decode cX7_outcome 45 = .ok (.f2i, 1) := by decide +kernel
theorem dX7_outcome_46 : decode cX7_outcome 46 = .ok (.ireturn, 1) := by decide +kernel
set_option maxRecDepth 20000 in
theorem s_X7_outcome_0 {l : Launch} {G : GT} {d : Nat} {Q : AV → AH → Prop} {H : AH} {a0 x1 : Int} {M : Row} {N : Row} (hS : SK H (a0 + 20) M) (hT : SK H (a0 + 43) N) (h_r0 : Lay LRun H a0) (h : (¬ x1 = 0 → CL l G mX2_refreshAll d 0 0 [vR (a0 + 3), vR (a0 + 43)] H (fun r9 H1 => Lay LRun H1 a0 ∧ SK H1 (a0 + 20) M ∧ SK H1 (a0 + 43) N ∧ r9 = vV ∧ (¬ x1 = 2 → CL l G mX6_averageDelay d 0 0 [vR (a0 + 43)] H1 (fun r9 H2 => Lay LRun H2 a0 ∧ SK H2 (a0 + 20) M ∧ SK H2 (a0 + 43) N ∧ ∃ y2 : Int, r9 = vF y2 ∧ Q (vI (af2i y2)) H2)) ∧ (x1 = 2 → CL l G mX6_countLate d 0 0 [vR (a0 + 43)] H1 (fun r9 H2 => Lay LRun H2 a0 ∧ SK H2 (a0 + 20) M ∧ SK H2 (a0 + 43) N ∧ ∃ y2 : Int, r9 = vI y2 ∧ Q (vI y2) H2)))) ∧ (x1 = 0 → Q (vI (N 7)) H)) : AW l G mX7_outcome (d + 1) 0 0 Q 0 [vR a0, vI x1] [] 0 0 H := by
  refine a_iload_n dX7_outcome_0 rfl rfl ?_
  refine a_if_ne dX7_outcome_1 (tgt := 12) rfl (fun c1 => ?_) (fun c1 => ?_)
  · replace h := h.1 c1
    refine a_aload_n dX7_outcome_12 rfl rfl ?_
    refine a_getR dX7_outcome_13 fw_RX7_19 rfl rfl (kRun_0 h_r0) (rRun_0_1 h_r0) ?_
    refine a_aload_n dX7_outcome_16 rfl rfl ?_
    refine a_getR dX7_outcome_17 fw_RX7_30 rfl rfl (kRun_0 h_r0) (rRun_0_3 h_r0) ?_
    refine a_callV dX7_outcome_20 cw_X7_outcome_20 (as := [vR (a0 + 43)]) rfl rfl (kRun_3 h_r0) (Nat.le_refl _) (Nat.le_of_ble_eq_true rfl) (nocov rfl) (Nat.le_of_ble_eq_true rfl) (Nat.le_of_ble_eq_true rfl) (CL.mono h (fun r9 H1 h => ?_))
    obtain ⟨h_r0_1, hSr0_20_1, hSr0_43_1, e9, h⟩ := h
    rw [e9]
    show AW l G mX7_outcome (d + 1) 0 0 Q 23 [vR a0, vI x1] [] 0 0 H1
    refine a_iload_n dX7_outcome_23 rfl rfl ?_
    refine a_iconst dX7_outcome_24 ⟨by decide, by decide⟩ ?_
    refine a_icmp_ne dX7_outcome_25 (tgt := 38) rfl (fun c25 => ?_) (fun c25 => ?_)
    · replace h := h.1 c25
      refine a_aload_n dX7_outcome_38 rfl rfl ?_
      refine a_getR dX7_outcome_39 fw_RX7_30 rfl rfl (kRun_0 h_r0_1) (rRun_0_3 h_r0_1) ?_
      refine a_callV dX7_outcome_42 cw_X7_outcome_42 (as := []) rfl rfl (kRun_43 h_r0_1) (Nat.le_refl _) (Nat.le_of_ble_eq_true rfl) (nocov rfl) (Nat.le_of_ble_eq_true rfl) (Nat.le_of_ble_eq_true rfl) (CL.mono h (fun r9 H2 h => ?_))
      obtain ⟨h_r0_2, hSr0_20_2, hSr0_43_2, y2, e9, h⟩ := h
      rw [e9]
      show AW l G mX7_outcome (d + 1) 0 0 Q 45 [vR a0, vI x1] [vF y2] 0 0 H2
      refine a_f2i dX7_outcome_45 ?_
      exact a_iret dX7_outcome_46 rfl (Nat.le_of_ble_eq_true rfl) (Nat.le_of_ble_eq_true rfl) h
    · replace h := h.2 c25
      refine a_aload_n dX7_outcome_28 rfl rfl ?_
      refine a_getR dX7_outcome_29 fw_RX7_30 rfl rfl (kRun_0 h_r0_1) (rRun_0_3 h_r0_1) ?_
      refine a_callV dX7_outcome_32 cw_X7_outcome_32 (as := []) rfl rfl (kRun_43 h_r0_1) (Nat.le_refl _) (Nat.le_of_ble_eq_true rfl) (nocov rfl) (Nat.le_of_ble_eq_true rfl) (Nat.le_of_ble_eq_true rfl) (CL.mono h (fun r9 H2 h => ?_))
      obtain ⟨h_r0_2, hSr0_20_2, hSr0_43_2, y2, e9, h⟩ := h
      rw [e9]
      show AW l G mX7_outcome (d + 1) 0 0 Q 35 [vR a0, vI x1] [vI y2] 0 0 H2
      refine a_goto dX7_outcome_35 (tgt := 46) rfl ?_
      exact a_iret dX7_outcome_46 rfl (Nat.le_of_ble_eq_true rfl) (Nat.le_of_ble_eq_true rfl) h
  · replace h := h.2 c1
    refine a_aload_n dX7_outcome_4 rfl rfl ?_
    refine a_getR dX7_outcome_5 fw_RX7_30 rfl rfl (kRun_0 h_r0) (rRun_0_3 h_r0) ?_
    refine a_getIV dX7_outcome_8 fw_RX7_251 rfl rfl (kRun_43 h_r0) (sko (by omega) (sk_0_8 hT)) ?_
    exact a_iret dX7_outcome_11 rfl (Nat.le_of_ble_eq_true rfl) (Nat.le_of_ble_eq_true rfl) h


theorem dX7_simulate_0 : decode cX7_simulate 0 = .ok (.iload_n 1, 1) := by decide +kernel
theorem dX7_simulate_1 : decode cX7_simulate 1 = .ok (.ifCond .lt 25, 3) := by decide +kernel
theorem dX7_simulate_4 : decode cX7_simulate 4 = .ok (.iload_n 2, 1) := by decide +kernel
theorem dX7_simulate_5 : decode cX7_simulate 5 = .ok (.ifCond .lt 21, 3) := by decide +kernel
theorem dX7_simulate_8 : decode cX7_simulate 8 = .ok (.iload_n 2, 1) := by decide +kernel
theorem dX7_simulate_9 : decode cX7_simulate 9 = .ok (.sipush 500, 3) := by decide +kernel
theorem dX7_simulate_12 : decode cX7_simulate 12 = .ok (.if_icmp .gt 14, 3) := by decide +kernel
theorem dX7_simulate_15 : decode cX7_simulate 15 = .ok (.iload 4, 2) := by decide +kernel
theorem dX7_simulate_17 : decode cX7_simulate 17 = .ok (.ifCond .lt 9, 3) := by decide +kernel
theorem dX7_simulate_20 : decode cX7_simulate 20 = .ok (.iload 4, 2) := by decide +kernel
theorem dX7_simulate_22 : decode cX7_simulate 22 = .ok (.iconst 3, 1) := by decide +kernel
theorem dX7_simulate_23 : decode cX7_simulate 23 = .ok (.if_icmp .le 14, 3) := by decide +kernel
theorem dX7_simulate_26 : decode cX7_simulate 26 = .ok (.new 44, 3) := by decide +kernel
theorem dX7_simulate_29 : decode cX7_simulate 29 = .ok (.dup, 1) := by decide +kernel
theorem dX7_simulate_30 : decode cX7_simulate 30 = .ok (.ldc_w 281, 3) := by decide +kernel
theorem dX7_simulate_33 : decode cX7_simulate 33 = .ok (.invokespecial 48, 3) := by decide +kernel
theorem dX7_simulate_36 : decode cX7_simulate 36 = .ok (.athrow, 1) := by decide +kernel
theorem dX7_simulate_37 : decode cX7_simulate 37 = .ok (.iload_n 3, 1) := by decide +kernel
theorem dX7_simulate_38 : decode cX7_simulate 38 = .ok (.invokestatic 138, 3) := by decide +kernel
theorem dX7_simulate_41 : decode cX7_simulate 41 = .ok (.aload_n 0, 1) := by decide +kernel
theorem dX7_simulate_42 : decode cX7_simulate 42 = .ok (.getfield 30, 3) := by decide +kernel
theorem dX7_simulate_45 : decode cX7_simulate 45 = .ok (.aload_n 0, 1) := by decide +kernel
theorem dX7_simulate_46 : decode cX7_simulate 46 = .ok (.getfield 26, 3) := by decide +kernel
theorem dX7_simulate_49 : decode cX7_simulate 49 = .ok (.invokevirtual 73, 3) := by decide +kernel
theorem dX7_simulate_52 : decode cX7_simulate 52 = .ok (.iconst 0, 1) := by decide +kernel
theorem dX7_simulate_53 : decode cX7_simulate 53 = .ok (.istore 5, 2) := by decide +kernel
theorem dX7_simulate_55 : decode cX7_simulate 55 = .ok (.iload_n 1, 1) := by decide +kernel
theorem dX7_simulate_56 : decode cX7_simulate 56 = .ok (.i2l, 1) := by decide +kernel
theorem dX7_simulate_57 : decode cX7_simulate 57 = .ok (.lstore 6, 2) := by decide +kernel
theorem dX7_simulate_59 : decode cX7_simulate 59 = .ok (.iconst 0, 1) := by decide +kernel
theorem dX7_simulate_60 : decode cX7_simulate 60 = .ok (.istore 8, 2) := by decide +kernel
theorem dX7_simulate_62 : decode cX7_simulate 62 = .ok (.iload 8, 2) := by decide +kernel
theorem dX7_simulate_64 : decode cX7_simulate 64 = .ok (.iload_n 3, 1) := by decide +kernel
theorem dX7_simulate_65 : decode cX7_simulate 65 = .ok (.if_icmp .ge 147, 3) := by decide +kernel
theorem dX7_simulate_68 : decode cX7_simulate 68 = .ok (.iload_n 3, 1) := by decide +kernel
theorem dX7_simulate_69 : decode cX7_simulate 69 = .ok (.iload 8, 2) := by decide +kernel
theorem dX7_simulate_71 : decode cX7_simulate 71 = .ok (.isub, 1) := by decide +kernel
theorem dX7_simulate_72 : decode cX7_simulate 72 = .ok (.istore 9, 2) := by decide +kernel
theorem dX7_simulate_74 : decode cX7_simulate 74 = .ok (.aload_n 0, 1) := by decide +kernel
theorem dX7_simulate_75 : decode cX7_simulate 75 = .ok (.getfield 19, 3) := by decide +kernel
theorem dX7_simulate_78 : decode cX7_simulate 78 = .ok (.aload_n 0, 1) := by decide +kernel
theorem dX7_simulate_79 : decode cX7_simulate 79 = .ok (.getfield 30, 3) := by decide +kernel
theorem dX7_simulate_82 : decode cX7_simulate 82 = .ok (.aload_n 0, 1) := by decide +kernel
theorem dX7_simulate_83 : decode cX7_simulate 83 = .ok (.getfield 30, 3) := by decide +kernel
theorem dX7_simulate_86 : decode cX7_simulate 86 = .ok (.getfield 135, 3) := by decide +kernel
theorem dX7_simulate_89 : decode cX7_simulate 89 = .ok (.iload 9, 2) := by decide +kernel
theorem dX7_simulate_91 : decode cX7_simulate 91 = .ok (.bipush 60, 2) := by decide +kernel
theorem dX7_simulate_93 : decode cX7_simulate 93 = .ok (.if_icmp .ge 8, 3) := by decide +kernel
theorem dX7_simulate_96 : decode cX7_simulate 96 = .ok (.iload 9, 2) := by decide +kernel
theorem dX7_simulate_98 : decode cX7_simulate 98 = .ok (.goto 5, 3) := by decide +kernel
theorem dX7_simulate_101 : decode cX7_simulate 101 = .ok (.bipush 60, 2) := by decide +kernel
theorem dX7_simulate_103 : decode cX7_simulate 103 = .ok (.iadd, 1) := by decide +kernel
theorem dX7_simulate_104 : decode cX7_simulate 104 = .ok (.invokevirtual 142, 3) := by decide +kernel
theorem dX7_simulate_107 : decode cX7_simulate 107 = .ok (.pop, 1) := by decide +kernel
theorem dX7_simulate_108 : decode cX7_simulate 108 = .ok (.iconst 0, 1) := by decide +kernel
theorem dX7_simulate_109 : decode cX7_simulate 109 = .ok (.istore 10, 2) := by decide +kernel
theorem dX7_simulate_111 : decode cX7_simulate 111 = .ok (.iload 10, 2) := by decide +kernel
theorem dX7_simulate_113 : decode cX7_simulate 113 = .ok (.aload_n 0, 1) := by decide +kernel
theorem dX7_simulate_114 : decode cX7_simulate 114 = .ok (.getfield 30, 3) := by decide +kernel
theorem dX7_simulate_117 : decode cX7_simulate 117 = .ok (.getfield 77, 3) := by decide +kernel
theorem dX7_simulate_120 : decode cX7_simulate 120 = .ok (.getfield 81, 3) := by decide +kernel
theorem dX7_simulate_123 : decode cX7_simulate 123 = .ok (.if_icmp .ge 83, 3) := by decide +kernel
theorem dX7_simulate_126 : decode cX7_simulate 126 = .ok (.aload_n 0, 1) := by decide +kernel
theorem dX7_simulate_127 : decode cX7_simulate 127 = .ok (.getfield 30, 3) := by decide +kernel
theorem dX7_simulate_130 : decode cX7_simulate 130 = .ok (.getfield 170, 3) := by decide +kernel
theorem dX7_simulate_133 : decode cX7_simulate 133 = .ok (.iload 10, 2) := by decide +kernel
theorem dX7_simulate_135 : decode cX7_simulate 135 = .ok (.iaload, 1) := by decide +kernel
theorem dX7_simulate_136 : decode cX7_simulate 136 = .ok (.iconst 1, 1) := by decide +kernel
theorem dX7_simulate_137 : decode cX7_simulate 137 = .ok (.if_icmp .ne 63, 3) := by decide +kernel
theorem dX7_simulate_140 : decode cX7_simulate 140 = .ok (.aload_n 0, 1) := by decide +kernel
theorem dX7_simulate_141 : decode cX7_simulate 141 = .ok (.getfield 30, 3) := by decide +kernel
theorem dX7_simulate_144 : decode cX7_simulate 144 = .ok (.getfield 77, 3) := by decide +kernel
theorem dX7_simulate_147 : decode cX7_simulate 147 = .ok (.getfield 109, 3) := by decide +kernel
theorem dX7_simulate_150 : decode cX7_simulate 150 = .ok (.iload 10, 2) := by decide +kernel
theorem dX7_simulate_152 : decode cX7_simulate 152 = .ok (.baload, 1) := by decide +kernel
theorem dX7_simulate_153 : decode cX7_simulate 153 = .ok (.ifCond .eq 47, 3) := by decide +kernel
theorem dX7_simulate_156 : decode cX7_simulate 156 = .ok (.ldc2_w 283, 3) := by decide +kernel
theorem dX7_simulate_159 : decode cX7_simulate 159 = .ok (.lload 6, 2) := by decide +kernel
theorem dX7_simulate_161 : decode cX7_simulate 161 = .ok (.lmul, 1) := by decide +kernel
theorem dX7_simulate_162 : decode cX7_simulate 162 = .ok (.ldc2_w 285, 3) := by decide +kernel
theorem dX7_simulate_165 : decode cX7_simulate 165 = .ok (.ladd, 1) := by decide +kernel
theorem dX7_simulate_166 : decode cX7_simulate 166 = .ok (.ldc2_w 287, 3) := by decide +kernel
theorem dX7_simulate_169 : decode cX7_simulate 169 = .ok (.lrem, 1) := by decide +kernel
theorem dX7_simulate_170 : decode cX7_simulate 170 = .ok (.lstore 6, 2) := by decide +kernel
theorem dX7_simulate_172 : decode cX7_simulate 172 = .ok (.lload 6, 2) := by decide +kernel
theorem dX7_simulate_174 : decode cX7_simulate 174 = .ok (.ldc2_w 289, 3) := by decide +kernel
theorem dX7_simulate_177 : decode cX7_simulate 177 = .ok (.ldiv, 1) := by decide +kernel
theorem dX7_simulate_178 : decode cX7_simulate 178 = .ok (.ldc2_w 291, 3) := by decide +kernel
theorem dX7_simulate_181 : decode cX7_simulate 181 = .ok (.lrem, 1) := by decide +kernel
theorem dX7_simulate_182 : decode cX7_simulate 182 = .ok (.iload_n 2, 1) := by decide +kernel
theorem dX7_simulate_183 : decode cX7_simulate 183 = .ok (.i2l, 1) := by decide +kernel
theorem dX7_simulate_184 : decode cX7_simulate 184 = .ok (.lcmp, 1) := by decide +kernel
theorem dX7_simulate_185 : decode cX7_simulate 185 = .ok (.ifCond .ge 15, 3) := by decide +kernel
theorem dX7_simulate_188 : decode cX7_simulate 188 = .ok (.aload_n 0, 1) := by decide +kernel
theorem dX7_simulate_189 : decode cX7_simulate 189 = .ok (.getfield 30, 3) := by decide +kernel
theorem dX7_simulate_192 : decode cX7_simulate 192 = .ok (.iload 10, 2) := by decide +kernel
theorem dX7_simulate_194 : decode cX7_simulate 194 = .ok (.invokevirtual 183, 3) := by decide +kernel
theorem dX7_simulate_197 : decode cX7_simulate 197 = .ok (.iinc 5 1, 3) := by decide +kernel
theorem dX7_simulate_200 : decode cX7_simulate 200 = .ok (.iinc 10 1, 3) := by decide +kernel
theorem dX7_simulate_203 : decode cX7_simulate 203 = .ok (.goto (-92), 3) := by decide +kernel
theorem dX7_simulate_206 : decode cX7_simulate 206 = .ok (.iinc 8 60, 3) := by decide +kernel
theorem dX7_simulate_209 : decode cX7_simulate 209 = .ok (.goto (-147), 3) := by decide +kernel
theorem dX7_simulate_212 : decode cX7_simulate 212 = .ok (.iload 4, 2) := by decide +kernel
theorem dX7_simulate_214 : decode cX7_simulate 214 = .ok (.iconst 1, 1) := by decide +kernel
theorem dX7_simulate_215 : decode cX7_simulate 215 = .ok (.if_icmp .ne 8, 3) := by decide +kernel
theorem dX7_simulate_218 : decode cX7_simulate 218 = .ok (.iload 5, 2) := by decide +kernel
theorem dX7_simulate_220 : decode cX7_simulate 220 = .ok (.goto 9, 3) := by decide +kernel
theorem dX7_simulate_223 : decode cX7_simulate 223 = .ok (.aload_n 0, 1) := by decide +kernel
theorem dX7_simulate_224 : decode cX7_simulate 224 = .ok (.iload 4, 2) := by decide +kernel
theorem dX7_simulate_226 : decode cX7_simulate 226 = .ok (.invokevirtual 293, 3) := by decide +kernel
theorem dX7_simulate_229 : decode cX7_simulate 229 = .ok (.ireturn, 1) := by decide +kernel
set_option maxRecDepth 20000 in
theorem s_X7_simulate_0 {l : Launch} {G : GT} {d : Nat} {Q : AV → AH → Prop} {H : AH} {a0 x1 x2 x3 x4 : Int} (hG : GX l G) {M : Row} (hS : SK H (a0 + 20) M) (h_r0 : Lay LRun H a0) (h : (x1 < 0 → Q (vT 0) H) ∧ (0 ≤ x1 → (x2 < 0 → Q (vT 0) H) ∧ (0 ≤ x2 → (500 < x2 → Q (vT 0) H) ∧ (x2 ≤ 500 → (x4 < 0 → Q (vT 0) H) ∧ (0 ≤ x4 → (x4 ≤ 3 → (¬ (1 ≤ x3 ∧ x3 ≤ 7200) → Q (vT 0) H) ∧ (1 ≤ x3 ∧ x3 ≤ 7200 → CL l G mX6_copyFrom d 0 0 [vR (a0 + 43), vR (a0 + 20)] H (fun r9 H1 => ∃ M1 : Row, Lay LRun H1 a0 ∧ SK H1 (a0 + 20) M ∧ SK H1 (a0 + 43) M1 ∧ r9 = vV ∧ AW l G mX7_simulate (d + 1) 4 24 Q 62 [vR a0, vI x1, vI x2, vI x3, vI x4, vI 0, vJ x1, vU, vI 0, vU, vU] [] 2 12 H1))) ∧ (3 < x4 → Q (vT 0) H)))))) (hd : 6 ≤ d := by omega) : AW l G mX7_simulate (d + 1) 4 24 Q 0 [vR a0, vI x1, vI x2, vI x3, vI x4, vU, vU, vU, vU, vU, vU] [] 0 0 H := by
  refine a_iload_n dX7_simulate_0 rfl rfl ?_
  refine a_if_lt dX7_simulate_1 (tgt := 26) rfl (fun c1 => ?_) (fun c1 => ?_)
  · replace h := h.1 c1
    exact a_thrW 0 hG dX7_simulate_26 dX7_simulate_29 dX7_simulate_30 dX7_simulate_33 dX7_simulate_36 rfl rfl (by unfold exK; decide) (text := "a parameter is out of range") (by decide) (Nat.le_of_ble_eq_true rfl) (by omega) (Nat.le_of_ble_eq_true rfl) (Nat.le_of_ble_eq_true rfl) h
  · replace h := h.2 c1
    refine a_iload_n dX7_simulate_4 rfl rfl ?_
    refine a_if_lt dX7_simulate_5 (tgt := 26) rfl (fun c5 => ?_) (fun c5 => ?_)
    · replace h := h.1 c5
      exact a_thrW 0 hG dX7_simulate_26 dX7_simulate_29 dX7_simulate_30 dX7_simulate_33 dX7_simulate_36 rfl rfl (by unfold exK; decide) (text := "a parameter is out of range") (by decide) (Nat.le_of_ble_eq_true rfl) (by omega) (Nat.le_of_ble_eq_true rfl) (Nat.le_of_ble_eq_true rfl) h
    · replace h := h.2 c5
      refine a_iload_n dX7_simulate_8 rfl rfl ?_
      refine a_sipush dX7_simulate_9 (by decide) ?_
      refine a_icmp_gt dX7_simulate_12 (tgt := 26) rfl (fun c12 => ?_) (fun c12 => ?_)
      · replace h := h.1 c12
        exact a_thrW 0 hG dX7_simulate_26 dX7_simulate_29 dX7_simulate_30 dX7_simulate_33 dX7_simulate_36 rfl rfl (by unfold exK; decide) (text := "a parameter is out of range") (by decide) (Nat.le_of_ble_eq_true rfl) (by omega) (Nat.le_of_ble_eq_true rfl) (Nat.le_of_ble_eq_true rfl) h
      · replace h := h.2 c12
        refine a_iload dX7_simulate_15 rfl ?_
        refine a_if_lt dX7_simulate_17 (tgt := 26) rfl (fun c17 => ?_) (fun c17 => ?_)
        · replace h := h.1 c17
          exact a_thrW 0 hG dX7_simulate_26 dX7_simulate_29 dX7_simulate_30 dX7_simulate_33 dX7_simulate_36 rfl rfl (by unfold exK; decide) (text := "a parameter is out of range") (by decide) (Nat.le_of_ble_eq_true rfl) (by omega) (Nat.le_of_ble_eq_true rfl) (Nat.le_of_ble_eq_true rfl) h
        · replace h := h.2 c17
          refine a_iload dX7_simulate_20 rfl ?_
          refine a_iconst dX7_simulate_22 ⟨by decide, by decide⟩ ?_
          refine a_icmp_le dX7_simulate_23 (tgt := 37) rfl (fun c23 => ?_) (fun c23 => ?_)
          · replace h := h.1 c23
            refine a_iload_n dX7_simulate_37 rfl rfl ?_
            refine a_callS dX7_simulate_38 cw_X7_simulate_38 (as := [vI x3]) rfl rfl (Nat.le_refl _) (Nat.le_of_ble_eq_true rfl) (nocov rfl) (Nat.le_of_ble_eq_true rfl) (Nat.le_of_ble_eq_true rfl) (CL.mono (k_checkSeconds hG) (fun r9 H9 h9 => ?_))
            obtain ⟨h8, h9⟩ := h9
            rw [h8]
            rcases h9 with ⟨c38, e9⟩ | ⟨c38, e9⟩
            · rw [e9]; exact h.1 c38
            rw [e9]
            replace h := h.2 c38
            show AW l G mX7_simulate (d + 1) 4 24 Q 41 [vR a0, vI x1, vI x2, vI x3, vI x4, vU, vU, vU, vU, vU, vU] [] 1 6 H
            refine a_aload_n dX7_simulate_41 rfl rfl ?_
            refine a_getR dX7_simulate_42 fw_RX7_30 rfl rfl (kRun_0 h_r0) (rRun_0_3 h_r0) ?_
            refine a_aload_n dX7_simulate_45 rfl rfl ?_
            refine a_getR dX7_simulate_46 fw_RX7_26 rfl rfl (kRun_0 h_r0) (rRun_0_2 h_r0) ?_
            refine a_callV dX7_simulate_49 cw_X7_simulate_49 (as := [vR (a0 + 20)]) rfl rfl (kRun_43 h_r0) (Nat.le_refl _) (Nat.le_of_ble_eq_true rfl) (nocov rfl) (Nat.le_of_ble_eq_true rfl) (Nat.le_of_ble_eq_true rfl) (CL.mono h (fun r9 H1 h => ?_))
            obtain ⟨M1, h_r0_1, hSr0_20_1, hSr0_43_1, e9, h⟩ := h
            rw [e9]
            show AW l G mX7_simulate (d + 1) 4 24 Q 52 [vR a0, vI x1, vI x2, vI x3, vI x4, vU, vU, vU, vU, vU, vU] [] 1 6 H1
            refine a_iconst dX7_simulate_52 ⟨by decide, by decide⟩ ?_
            refine a_istore dX7_simulate_53 (Nat.le_of_ble_eq_true rfl) (ls' := [vR a0, vI x1, vI x2, vI x3, vI x4, vI 0, vU, vU, vU, vU, vU]) rfl ?_
            refine a_iload_n dX7_simulate_55 rfl rfl ?_
            refine a_i2l dX7_simulate_56 ?_
            refine a_lstore dX7_simulate_57 (Nat.le_of_ble_eq_true rfl) (ls' := [vR a0, vI x1, vI x2, vI x3, vI x4, vI 0, vJ x1, vU, vU, vU, vU]) rfl ?_
            refine a_iconst dX7_simulate_59 ⟨by decide, by decide⟩ ?_
            refine a_istore dX7_simulate_60 (Nat.le_of_ble_eq_true rfl) (ls' := [vR a0, vI x1, vI x2, vI x3, vI x4, vI 0, vJ x1, vU, vI 0, vU, vU]) rfl ?_
            refine a_wide (cs' := 2) (sl' := 12) (Nat.le_of_ble_eq_true rfl) (Nat.le_of_ble_eq_true rfl) ?_
            exact h
          · replace h := h.2 c23
            exact a_thrW 0 hG dX7_simulate_26 dX7_simulate_29 dX7_simulate_30 dX7_simulate_33 dX7_simulate_36 rfl rfl (by unfold exK; decide) (text := "a parameter is out of range") (by decide) (Nat.le_of_ble_eq_true rfl) (by omega) (Nat.le_of_ble_eq_true rfl) (Nat.le_of_ble_eq_true rfl) h


set_option maxRecDepth 20000 in
theorem s_X7_simulate_62 {l : Launch} {G : GT} {d : Nat} {Q : AV → AH → Prop} {H : AH} {a0 x1 x2 x3 x4 x5 x6 x8 : Int} (hG : GX l G) {M : Row} {N : Row} (hS : SK H (a0 + 20) M) (hT : SK H (a0 + 43) N) (h_r0 : Lay LRun H a0) (h : (x3 ≤ x8 → (¬ x4 = 1 → CL l G mX7_outcome d 0 0 [vR a0, vI x4] H (fun r9 H1 => Lay LRun H1 a0 ∧ SK H1 (a0 + 20) M ∧ SK H1 (a0 + 43) N ∧ ∃ y1 : Int, r9 = vI y1 ∧ Q (vI y1) H1)) ∧ (x4 = 1 → Q (vI x5) H)) ∧ (x8 < x3 → (-2147483648 ≤ x3 - x8 ∧ x3 - x8 ≤ 2147483647) ∧ (60 ≤ (x3 - x8) → (-2147483648 ≤ (N 0) + 60 ∧ (N 0) + 60 ≤ 2147483647) ∧ CL l G mX2_pass d 0 0 [vR (a0 + 3), vR (a0 + 43), vI ((N 0) + 60)] H (fun r9 H1 => ∃ M1 : Row, Lay LRun H1 a0 ∧ SK H1 (a0 + 20) M ∧ SK H1 (a0 + 43) M1 ∧ ∃ y1 : Int, r9 = vI y1 ∧ AW l G mX7_simulate (d + 1) 4 24 Q 111 [vR a0, vI x1, vI x2, vI x3, vI x4, vI x5, vJ x6, vU, vI x8, vI (x3 - x8), vI 0] [] 2 12 H1)) ∧ ((x3 - x8) < 60 → (-2147483648 ≤ (N 0) + (x3 - x8) ∧ (N 0) + (x3 - x8) ≤ 2147483647) ∧ CL l G mX2_pass d 0 0 [vR (a0 + 3), vR (a0 + 43), vI ((N 0) + (x3 - x8))] H (fun r9 H1 => ∃ M1 : Row, Lay LRun H1 a0 ∧ SK H1 (a0 + 20) M ∧ SK H1 (a0 + 43) M1 ∧ ∃ y1 : Int, r9 = vI y1 ∧ AW l G mX7_simulate (d + 1) 4 24 Q 111 [vR a0, vI x1, vI x2, vI x3, vI x4, vI x5, vJ x6, vU, vI x8, vI (x3 - x8), vI 0] [] 2 12 H1)))) (hd : 6 ≤ d := by omega) : AW l G mX7_simulate (d + 1) 4 24 Q 62 [vR a0, vI x1, vI x2, vI x3, vI x4, vI x5, vJ x6, vU, vI x8, vU, vU] [] 2 12 H := by
  refine a_iload dX7_simulate_62 rfl ?_
  refine a_iload_n dX7_simulate_64 rfl rfl ?_
  refine a_icmp_ge dX7_simulate_65 (tgt := 212) rfl (fun c65 => ?_) (fun c65 => ?_)
  · replace h := h.1 c65
    refine a_iload dX7_simulate_212 rfl ?_
    refine a_iconst dX7_simulate_214 ⟨by decide, by decide⟩ ?_
    refine a_icmp_ne dX7_simulate_215 (tgt := 223) rfl (fun c215 => ?_) (fun c215 => ?_)
    · replace h := h.1 c215
      refine a_aload_n dX7_simulate_223 rfl rfl ?_
      refine a_iload dX7_simulate_224 rfl ?_
      refine a_callV dX7_simulate_226 cw_X7_simulate_226 (as := [vI x4]) rfl rfl (kRun_0 h_r0) (Nat.le_refl _) (Nat.le_of_ble_eq_true rfl) (nocov rfl) (Nat.le_of_ble_eq_true rfl) (Nat.le_of_ble_eq_true rfl) (CL.mono h (fun r9 H1 h => ?_))
      obtain ⟨h_r0_1, hSr0_20_1, hSr0_43_1, y1, e9, h⟩ := h
      rw [e9]
      show AW l G mX7_simulate (d + 1) 4 24 Q 229 [vR a0, vI x1, vI x2, vI x3, vI x4, vI x5, vJ x6, vU, vI x8, vU, vU] [vI y1] 2 12 H1
      exact a_iret dX7_simulate_229 rfl (Nat.le_of_ble_eq_true rfl) (Nat.le_of_ble_eq_true rfl) h
    · replace h := h.2 c215
      refine a_iload dX7_simulate_218 rfl ?_
      refine a_goto dX7_simulate_220 (tgt := 229) rfl ?_
      exact a_iret dX7_simulate_229 rfl (Nat.le_of_ble_eq_true rfl) (Nat.le_of_ble_eq_true rfl) h
  · replace h := h.2 c65
    refine a_iload_n dX7_simulate_68 rfl rfl ?_
    refine a_iload dX7_simulate_69 rfl ?_
    obtain ⟨q71_0, h⟩ := h
    refine a_isub dX7_simulate_71 q71_0 ?_
    refine a_istore dX7_simulate_72 (Nat.le_of_ble_eq_true rfl) (ls' := [vR a0, vI x1, vI x2, vI x3, vI x4, vI x5, vJ x6, vU, vI x8, vI (x3 - x8), vU]) rfl ?_
    refine a_aload_n dX7_simulate_74 rfl rfl ?_
    refine a_getR dX7_simulate_75 fw_RX7_19 rfl rfl (kRun_0 h_r0) (rRun_0_1 h_r0) ?_
    refine a_aload_n dX7_simulate_78 rfl rfl ?_
    refine a_getR dX7_simulate_79 fw_RX7_30 rfl rfl (kRun_0 h_r0) (rRun_0_3 h_r0) ?_
    refine a_aload_n dX7_simulate_82 rfl rfl ?_
    refine a_getR dX7_simulate_83 fw_RX7_30 rfl rfl (kRun_0 h_r0) (rRun_0_3 h_r0) ?_
    refine a_getIV dX7_simulate_86 fw_RX7_135 rfl rfl (kRun_43 h_r0) (sko (by omega) (sk_0_2 hT)) ?_
    refine a_iload dX7_simulate_89 rfl ?_
    refine a_bipush dX7_simulate_91 (by decide) ?_
    refine a_icmp_ge dX7_simulate_93 (tgt := 101) rfl (fun c93 => ?_) (fun c93 => ?_)
    · replace h := h.1 c93
      refine a_bipush dX7_simulate_101 (by decide) ?_
      obtain ⟨q103_0, h⟩ := h
      refine a_iadd dX7_simulate_103 q103_0 ?_
      refine a_callV dX7_simulate_104 cw_X7_simulate_104 (as := [vR (a0 + 43), vI ((N 0) + 60)]) rfl rfl (kRun_3 h_r0) (Nat.le_refl _) (Nat.le_of_ble_eq_true rfl) (nocov rfl) (Nat.le_of_ble_eq_true rfl) (Nat.le_of_ble_eq_true rfl) (CL.mono h (fun r9 H1 h => ?_))
      obtain ⟨M1, h_r0_1, hSr0_20_1, hSr0_43_1, y1, e9, h⟩ := h
      rw [e9]
      show AW l G mX7_simulate (d + 1) 4 24 Q 107 [vR a0, vI x1, vI x2, vI x3, vI x4, vI x5, vJ x6, vU, vI x8, vI (x3 - x8), vU] [vI y1] 2 12 H1
      refine a_pop dX7_simulate_107 rfl ?_
      refine a_iconst dX7_simulate_108 ⟨by decide, by decide⟩ ?_
      refine a_istore dX7_simulate_109 (Nat.le_of_ble_eq_true rfl) (ls' := [vR a0, vI x1, vI x2, vI x3, vI x4, vI x5, vJ x6, vU, vI x8, vI (x3 - x8), vI 0]) rfl ?_
      exact h
    · replace h := h.2 c93
      refine a_iload dX7_simulate_96 rfl ?_
      refine a_goto dX7_simulate_98 (tgt := 103) rfl ?_
      obtain ⟨q103_0, h⟩ := h
      refine a_iadd dX7_simulate_103 q103_0 ?_
      refine a_callV dX7_simulate_104 cw_X7_simulate_104 (as := [vR (a0 + 43), vI ((N 0) + (x3 - x8))]) rfl rfl (kRun_3 h_r0) (Nat.le_refl _) (Nat.le_of_ble_eq_true rfl) (nocov rfl) (Nat.le_of_ble_eq_true rfl) (Nat.le_of_ble_eq_true rfl) (CL.mono h (fun r9 H1 h => ?_))
      obtain ⟨M1, h_r0_1, hSr0_20_1, hSr0_43_1, y1, e9, h⟩ := h
      rw [e9]
      show AW l G mX7_simulate (d + 1) 4 24 Q 107 [vR a0, vI x1, vI x2, vI x3, vI x4, vI x5, vJ x6, vU, vI x8, vI (x3 - x8), vU] [vI y1] 2 12 H1
      refine a_pop dX7_simulate_107 rfl ?_
      refine a_iconst dX7_simulate_108 ⟨by decide, by decide⟩ ?_
      refine a_istore dX7_simulate_109 (Nat.le_of_ble_eq_true rfl) (ls' := [vR a0, vI x1, vI x2, vI x3, vI x4, vI x5, vJ x6, vU, vI x8, vI (x3 - x8), vI 0]) rfl ?_
      exact h

set_option maxRecDepth 20000 in
theorem s_X7_simulate_111 {l : Launch} {G : GT} {d : Nat} {Q : AV → AH → Prop} {H : AH} {a0 x1 x10 x2 x3 x4 x5 x6 x8 x9 : Int} (hG : GX l G) {M : Row} {N : Row} (hS : SK H (a0 + 20) M) (hT : SK H (a0 + 43) N) (h_r0 : Lay LRun H a0) (h : ((N 6) ≤ x10 → (-2147483648 ≤ x8 + 60 ∧ x8 + 60 ≤ 2147483647) ∧ AW l G mX7_simulate (d + 1) 4 24 Q 62 [vR a0, vI x1, vI x2, vI x3, vI x4, vI x5, vJ x6, vU, vI (x8 + 60), vU, vU] [] 2 12 H) ∧ (x10 < (N 6) → (0 ≤ x10 ∧ x10 < N 6) ∧ (¬ (ofM N x10 7) = 1 → (-2147483648 ≤ x10 + 1 ∧ x10 + 1 ≤ 2147483647) ∧ AW l G mX7_simulate (d + 1) 4 24 Q 111 [vR a0, vI x1, vI x2, vI x3, vI x4, vI x5, vJ x6, vU, vI x8, vI x9, vI (x10 + 1)] [] 2 12 H) ∧ ((ofM N x10 7) = 1 → ((ofM N x10 0) = 0 → (-2147483648 ≤ x10 + 1 ∧ x10 + 1 ≤ 2147483647) ∧ AW l G mX7_simulate (d + 1) 4 24 Q 111 [vR a0, vI x1, vI x2, vI x3, vI x4, vI x5, vJ x6, vU, vI x8, vI x9, vI (x10 + 1)] [] 2 12 H) ∧ (¬ (ofM N x10 0) = 0 → (-9223372036854775808 ≤ 1103515245 * x6 ∧ 1103515245 * x6 ≤ 9223372036854775807) ∧ (-9223372036854775808 ≤ (1103515245 * x6) + 12345 ∧ (1103515245 * x6) + 12345 ≤ 9223372036854775807) ∧ ((-9223372036854775808 ≤ ((1103515245 * x6) + 12345).tdiv 2147483648 ∧ ((1103515245 * x6) + 12345).tdiv 2147483648 ≤ 9223372036854775807) ∧ (-9223372036854775808 ≤ (((1103515245 * x6) + 12345).tdiv 2147483648) * 2147483648 ∧ (((1103515245 * x6) + 12345).tdiv 2147483648) * 2147483648 ≤ 9223372036854775807) ∧ (-9223372036854775808 ≤ ((1103515245 * x6) + 12345).tmod 2147483648 ∧ ((1103515245 * x6) + 12345).tmod 2147483648 ≤ 9223372036854775807)) ∧ (-9223372036854775808 ≤ (((1103515245 * x6) + 12345).tmod 2147483648).tdiv 65536 ∧ (((1103515245 * x6) + 12345).tmod 2147483648).tdiv 65536 ≤ 9223372036854775807) ∧ ((-9223372036854775808 ≤ ((((1103515245 * x6) + 12345).tmod 2147483648).tdiv 65536).tdiv 1000 ∧ ((((1103515245 * x6) + 12345).tmod 2147483648).tdiv 65536).tdiv 1000 ≤ 9223372036854775807) ∧ (-9223372036854775808 ≤ (((((1103515245 * x6) + 12345).tmod 2147483648).tdiv 65536).tdiv 1000) * 1000 ∧ (((((1103515245 * x6) + 12345).tmod 2147483648).tdiv 65536).tdiv 1000) * 1000 ≤ 9223372036854775807) ∧ (-9223372036854775808 ≤ ((((1103515245 * x6) + 12345).tmod 2147483648).tdiv 65536).tmod 1000 ∧ ((((1103515245 * x6) + 12345).tmod 2147483648).tdiv 65536).tmod 1000 ≤ 9223372036854775807)) ∧ (x2 ≤ (((((1103515245 * x6) + 12345).tmod 2147483648).tdiv 65536).tmod 1000) → (-2147483648 ≤ x10 + 1 ∧ x10 + 1 ≤ 2147483647) ∧ AW l G mX7_simulate (d + 1) 4 24 Q 111 [vR a0, vI x1, vI x2, vI x3, vI x4, vI x5, vJ (((1103515245 * x6) + 12345).tmod 2147483648), vU, vI x8, vI x9, vI (x10 + 1)] [] 2 12 H) ∧ ((((((1103515245 * x6) + 12345).tmod 2147483648).tdiv 65536).tmod 1000) < x2 → CL l G mX6_turn d 0 0 [vR (a0 + 43), vI x10] H (fun r9 H1 => ∃ M1 : Row, Lay LRun H1 a0 ∧ SK H1 (a0 + 20) M ∧ SK H1 (a0 + 43) M1 ∧ r9 = vV ∧ (-2147483648 ≤ x5 + 1 ∧ x5 + 1 ≤ 2147483647) ∧ (-2147483648 ≤ x10 + 1 ∧ x10 + 1 ≤ 2147483647) ∧ AW l G mX7_simulate (d + 1) 4 24 Q 111 [vR a0, vI x1, vI x2, vI x3, vI x4, vI (x5 + 1), vJ (((1103515245 * x6) + 12345).tmod 2147483648), vU, vI x8, vI x9, vI (x10 + 1)] [] 2 12 H1)))))) (hd : 6 ≤ d := by omega) : AW l G mX7_simulate (d + 1) 4 24 Q 111 [vR a0, vI x1, vI x2, vI x3, vI x4, vI x5, vJ x6, vU, vI x8, vI x9, vI x10] [] 2 12 H := by
  refine a_iload dX7_simulate_111 rfl ?_
  refine a_aload_n dX7_simulate_113 rfl rfl ?_
  refine a_getR dX7_simulate_114 fw_RX7_30 rfl rfl (kRun_0 h_r0) (rRun_0_3 h_r0) ?_
  refine a_getR dX7_simulate_117 fw_RX7_77 rfl rfl (kRun_43 h_r0) (rRun_43_1 h_r0) ?_
  refine a_getIV dX7_simulate_120 fw_RX7_81 rfl rfl (kRun_48 h_r0) (sko (by omega) (sk_5_0 hT)) ?_
  refine a_icmp_ge dX7_simulate_123 (tgt := 206) rfl (fun c123 => ?_) (fun c123 => ?_)
  · replace h := h.1 c123
    obtain ⟨q206_0, h⟩ := h
    refine a_iinc dX7_simulate_206 rfl (Nat.le_of_ble_eq_true rfl) (by decide) q206_0 (ls' := [vR a0, vI x1, vI x2, vI x3, vI x4, vI x5, vJ x6, vU, vI (x8 + 60), vI x9, vI x10]) rfl ?_
    refine a_goto dX7_simulate_209 (tgt := 62) rfl ?_
    exact a_weak (wk_e (wk_e (wk_e (wk_e (wk_e (wk_e (wk_e (wk_u (wk_e (wk_u (wk_u wk_n))))))))))) h
  · replace h := h.2 c123
    refine a_aload_n dX7_simulate_126 rfl rfl ?_
    refine a_getR dX7_simulate_127 fw_RX7_30 rfl rfl (kRun_0 h_r0) (rRun_0_3 h_r0) ?_
    refine a_getR dX7_simulate_130 fw_RX7_170 rfl rfl (kRun_43 h_r0) (rRun_43_4 h_r0) ?_
    refine a_iload dX7_simulate_133 rfl ?_
    obtain ⟨q135_0, h⟩ := h
    refine b_ialdV dX7_simulate_135 (kRun_58 h_r0) (nRun_58 h_r0) (sk_lt hT q135_0) (sko (by omega) (sk_15 hT q135_0)) ?_
    refine a_iconst dX7_simulate_136 ⟨by decide, by decide⟩ ?_
    refine a_icmp_ne dX7_simulate_137 (tgt := 200) rfl (fun c137 => ?_) (fun c137 => ?_)
    · replace h := h.1 c137
      obtain ⟨q200_0, h⟩ := h
      refine a_iinc dX7_simulate_200 rfl (Nat.le_of_ble_eq_true rfl) (by decide) q200_0 (ls' := [vR a0, vI x1, vI x2, vI x3, vI x4, vI x5, vJ x6, vU, vI x8, vI x9, vI (x10 + 1)]) rfl ?_
      refine a_goto dX7_simulate_203 (tgt := 111) rfl ?_
      exact h
    · replace h := h.2 c137
      refine a_aload_n dX7_simulate_140 rfl rfl ?_
      refine a_getR dX7_simulate_141 fw_RX7_30 rfl rfl (kRun_0 h_r0) (rRun_0_3 h_r0) ?_
      refine a_getR dX7_simulate_144 fw_RX7_77 rfl rfl (kRun_43 h_r0) (rRun_43_1 h_r0) ?_
      refine a_getR dX7_simulate_147 fw_RX7_109 rfl rfl (kRun_48 h_r0) (rRun_48_3 h_r0) ?_
      refine a_iload dX7_simulate_150 rfl ?_
      refine b_zaldV dX7_simulate_152 (kRun_51 h_r0) (nRun_51 h_r0) (sk_lt hT q135_0) (sko (by omega) (sk_8 hT q135_0)) ?_
      refine a_if_eq dX7_simulate_153 (tgt := 200) rfl (fun c153 => ?_) (fun c153 => ?_)
      · replace h := h.1 c153
        obtain ⟨q200_0, h⟩ := h
        refine a_iinc dX7_simulate_200 rfl (Nat.le_of_ble_eq_true rfl) (by decide) q200_0 (ls' := [vR a0, vI x1, vI x2, vI x3, vI x4, vI x5, vJ x6, vU, vI x8, vI x9, vI (x10 + 1)]) rfl ?_
        refine a_goto dX7_simulate_203 (tgt := 111) rfl ?_
        exact h
      · replace h := h.2 c153
        refine a_ldc2 dX7_simulate_156 (w_1172) ?_
        show AW l G mX7_simulate (d + 1) 4 24 Q 159 [vR a0, vI x1, vI x2, vI x3, vI x4, vI x5, vJ x6, vU, vI x8, vI x9, vI x10] [vJ 1103515245] 2 12 H
        refine a_lload dX7_simulate_159 rfl ?_
        obtain ⟨q161_0, h⟩ := h
        refine a_lmul dX7_simulate_161 q161_0 ?_
        refine a_ldc2 dX7_simulate_162 (w_1173) ?_
        show AW l G mX7_simulate (d + 1) 4 24 Q 165 [vR a0, vI x1, vI x2, vI x3, vI x4, vI x5, vJ x6, vU, vI x8, vI x9, vI x10] [vJ 12345, vJ (1103515245 * x6)] 2 12 H
        obtain ⟨q165_0, h⟩ := h
        refine a_ladd dX7_simulate_165 q165_0 ?_
        refine a_ldc2 dX7_simulate_166 (w_1174) ?_
        show AW l G mX7_simulate (d + 1) 4 24 Q 169 [vR a0, vI x1, vI x2, vI x3, vI x4, vI x5, vJ x6, vU, vI x8, vI x9, vI x10] [vJ 2147483648, vJ ((1103515245 * x6) + 12345)] 2 12 H
        obtain ⟨q169_1, h⟩ := h
        refine a_lrem dX7_simulate_169 (by decide) q169_1 ?_
        refine a_lstore dX7_simulate_170 (Nat.le_of_ble_eq_true rfl) (ls' := [vR a0, vI x1, vI x2, vI x3, vI x4, vI x5, vJ (((1103515245 * x6) + 12345).tmod 2147483648), vU, vI x8, vI x9, vI x10]) rfl ?_
        refine a_lload dX7_simulate_172 rfl ?_
        refine a_ldc2 dX7_simulate_174 (w_1175) ?_
        show AW l G mX7_simulate (d + 1) 4 24 Q 177 [vR a0, vI x1, vI x2, vI x3, vI x4, vI x5, vJ (((1103515245 * x6) + 12345).tmod 2147483648), vU, vI x8, vI x9, vI x10] [vJ 65536, vJ (((1103515245 * x6) + 12345).tmod 2147483648)] 2 12 H
        obtain ⟨q177_1, h⟩ := h
        refine a_ldiv dX7_simulate_177 (by decide) q177_1 ?_
        refine a_ldc2 dX7_simulate_178 (w_1176) ?_
        show AW l G mX7_simulate (d + 1) 4 24 Q 181 [vR a0, vI x1, vI x2, vI x3, vI x4, vI x5, vJ (((1103515245 * x6) + 12345).tmod 2147483648), vU, vI x8, vI x9, vI x10] [vJ 1000, vJ ((((1103515245 * x6) + 12345).tmod 2147483648).tdiv 65536)] 2 12 H
        obtain ⟨q181_1, h⟩ := h
        refine a_lrem dX7_simulate_181 (by decide) q181_1 ?_
        refine a_iload_n dX7_simulate_182 rfl rfl ?_
        refine a_i2l dX7_simulate_183 ?_
        refine a_lcmp_ge dX7_simulate_184 dX7_simulate_185 (tgt := 200) rfl (fun c184 => ?_) (fun c184 => ?_)
        · replace h := h.1 c184
          obtain ⟨q200_0, h⟩ := h
          refine a_iinc dX7_simulate_200 rfl (Nat.le_of_ble_eq_true rfl) (by decide) q200_0 (ls' := [vR a0, vI x1, vI x2, vI x3, vI x4, vI x5, vJ (((1103515245 * x6) + 12345).tmod 2147483648), vU, vI x8, vI x9, vI (x10 + 1)]) rfl ?_
          refine a_goto dX7_simulate_203 (tgt := 111) rfl ?_
          exact h
        · replace h := h.2 c184
          refine a_aload_n dX7_simulate_188 rfl rfl ?_
          refine a_getR dX7_simulate_189 fw_RX7_30 rfl rfl (kRun_0 h_r0) (rRun_0_3 h_r0) ?_
          refine a_iload dX7_simulate_192 rfl ?_
          refine a_callV dX7_simulate_194 cw_X7_simulate_194 (as := [vI x10]) rfl rfl (kRun_43 h_r0) (Nat.le_refl _) (Nat.le_of_ble_eq_true rfl) (nocov rfl) (Nat.le_of_ble_eq_true rfl) (Nat.le_of_ble_eq_true rfl) (CL.mono h (fun r9 H1 h => ?_))
          obtain ⟨M1, h_r0_1, hSr0_20_1, hSr0_43_1, e9, h⟩ := h
          rw [e9]
          show AW l G mX7_simulate (d + 1) 4 24 Q 197 [vR a0, vI x1, vI x2, vI x3, vI x4, vI x5, vJ (((1103515245 * x6) + 12345).tmod 2147483648), vU, vI x8, vI x9, vI x10] [] 2 12 H1
          obtain ⟨q197_0, h⟩ := h
          refine a_iinc dX7_simulate_197 rfl (Nat.le_of_ble_eq_true rfl) (by decide) q197_0 (ls' := [vR a0, vI x1, vI x2, vI x3, vI x4, vI (x5 + 1), vJ (((1103515245 * x6) + 12345).tmod 2147483648), vU, vI x8, vI x9, vI x10]) rfl ?_
          obtain ⟨q200_0, h⟩ := h
          refine a_iinc dX7_simulate_200 rfl (Nat.le_of_ble_eq_true rfl) (by decide) q200_0 (ls' := [vR a0, vI x1, vI x2, vI x3, vI x4, vI (x5 + 1), vJ (((1103515245 * x6) + 12345).tmod 2147483648), vU, vI x8, vI x9, vI (x10 + 1)]) rfl ?_
          refine a_goto dX7_simulate_203 (tgt := 111) rfl ?_
          exact h

