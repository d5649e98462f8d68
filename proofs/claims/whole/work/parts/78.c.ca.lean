theorem dX2_countAllowed_0 : decode cX2_countAllowed 0 = .ok (.aload_n 0, 1) := by decide +kernel
theorem dX2_countAllowed_1 : decode cX2_countAllowed 1 = .ok (.aload_n 1, 1) := by decide +kernel
theorem dX2_countAllowed_2 : decode cX2_countAllowed 2 = .ok (.iload_n 2, 1) := by decide +kernel
theorem dX2_countAllowed_3 : decode cX2_countAllowed 3 = .ok (.invokevirtual 78, 3) := by decide +kernel
theorem dX2_countAllowed_6 : decode cX2_countAllowed 6 = .ok (.istore_n 3, 1) := by decide +kernel
theorem dX2_countAllowed_7 : decode cX2_countAllowed 7 = .ok (.iload_n 3, 1) := by decide +kernel
theorem dX2_countAllowed_8 : decode cX2_countAllowed 8 = .ok (.bipush 7, 2) := by decide +kernel
theorem dX2_countAllowed_10 : decode cX2_countAllowed 10 = .ok (.if_icmp .ge 7, 3) := by decide +kernel
theorem dX2_countAllowed_13 : decode cX2_countAllowed 13 = .ok (.iload_n 3, 1) := by decide +kernel
theorem dX2_countAllowed_14 : decode cX2_countAllowed 14 = .ok (.goto 5, 3) := by decide +kernel
theorem dX2_countAllowed_17 : decode cX2_countAllowed 17 = .ok (.bipush 7, 2) := by decide +kernel
theorem dX2_countAllowed_19 : decode cX2_countAllowed 19 = .ok (.istore 4, 2) := by decide +kernel
theorem dX2_countAllowed_21 : decode cX2_countAllowed 21 = .ok (.iconst 1, 1) := by decide +kernel
theorem dX2_countAllowed_22 : decode cX2_countAllowed 22 = .ok (.iload 4, 2) := by decide +kernel
theorem dX2_countAllowed_24 : decode cX2_countAllowed 24 = .ok (.ishl, 1) := by decide +kernel
theorem dX2_countAllowed_25 : decode cX2_countAllowed 25 = .ok (.iconst 1, 1) := by decide +kernel
theorem dX2_countAllowed_26 : decode cX2_countAllowed 26 = .ok (.isub, 1) := by decide +kernel
theorem dX2_countAllowed_27 : decode cX2_countAllowed 27 = .ok (.istore 5, 2) := by decide +kernel
theorem dX2_countAllowed_29 : decode cX2_countAllowed 29 = .ok (.iconst 0, 1) := by decide +kernel
theorem dX2_countAllowed_30 : decode cX2_countAllowed 30 = .ok (.istore 6, 2) := by decide +kernel
theorem dX2_countAllowed_32 : decode cX2_countAllowed 32 = .ok (.iload 6, 2) := by decide +kernel
theorem dX2_countAllowed_34 : decode cX2_countAllowed 34 = .ok (.iload 5, 2) := by decide +kernel
theorem dX2_countAllowed_36 : decode cX2_countAllowed 36 = .ok (.if_icmp .gt 26, 3) := by decide +kernel
theorem dX2_countAllowed_39 : decode cX2_countAllowed 39 = .ok (.aload_n 0, 1) := by decide +kernel
theorem dX2_countAllowed_40 : decode cX2_countAllowed 40 = .ok (.getfield 31, 3) := by decide +kernel
theorem dX2_countAllowed_43 : decode cX2_countAllowed 43 = .ok (.iload 6, 2) := by decide +kernel
theorem dX2_countAllowed_45 : decode cX2_countAllowed 45 = .ok (.iload 6, 2) := by decide +kernel
theorem dX2_countAllowed_47 : decode cX2_countAllowed 47 = .ok (.ifCond .ne 7, 3) := by decide +kernel
theorem dX2_countAllowed_50 : decode cX2_countAllowed 50 = .ok (.iconst 1, 1) := by decide +kernel
theorem dX2_countAllowed_51 : decode cX2_countAllowed 51 = .ok (.goto 4, 3) := by decide +kernel
theorem dX2_countAllowed_54 : decode cX2_countAllowed 54 = .ok (.iconst 0, 1) := by decide +kernel
theorem dX2_countAllowed_55 : decode cX2_countAllowed 55 = .ok (.iastore, 1) := by decide +kernel
theorem dX2_countAllowed_56 : decode cX2_countAllowed 56 = .ok (.iinc 6 1, 3) := by decide +kernel
theorem dX2_countAllowed_59 : decode cX2_countAllowed 59 = .ok (.goto (-27), 3) := by decide +kernel
theorem dX2_countAllowed_62 : decode cX2_countAllowed 62 = .ok (.iconst 0, 1) := by decide +kernel
theorem dX2_countAllowed_63 : decode cX2_countAllowed 63 = .ok (.istore 6, 2) := by decide +kernel
theorem dX2_countAllowed_65 : decode cX2_countAllowed 65 = .ok (.iload 6, 2) := by decide +kernel
theorem dX2_countAllowed_67 : decode cX2_countAllowed 67 = .ok (.iload 5, 2) := by decide +kernel
theorem dX2_countAllowed_69 : decode cX2_countAllowed 69 = .ok (.if_icmp .ge 98, 3) := by decide +kernel
theorem dX2_countAllowed_72 : decode cX2_countAllowed 72 = .ok (.iload 6, 2) := by decide +kernel
theorem dX2_countAllowed_74 : decode cX2_countAllowed 74 = .ok (.invokestatic 133, 3) := by decide +kernel
theorem dX2_countAllowed_77 : decode cX2_countAllowed 77 = .ok (.istore 7, 2) := by decide +kernel
theorem dX2_countAllowed_79 : decode cX2_countAllowed 79 = .ok (.iconst 0, 1) := by decide +kernel
theorem dX2_countAllowed_80 : decode cX2_countAllowed 80 = .ok (.istore 8, 2) := by decide +kernel
theorem dX2_countAllowed_82 : decode cX2_countAllowed 82 = .ok (.iload 8, 2) := by decide +kernel
theorem dX2_countAllowed_84 : decode cX2_countAllowed 84 = .ok (.iload 4, 2) := by decide +kernel
theorem dX2_countAllowed_86 : decode cX2_countAllowed 86 = .ok (.if_icmp .ge 75, 3) := by decide +kernel
theorem dX2_countAllowed_89 : decode cX2_countAllowed 89 = .ok (.iload 8, 2) := by decide +kernel
theorem dX2_countAllowed_91 : decode cX2_countAllowed 91 = .ok (.iload 7, 2) := by decide +kernel
theorem dX2_countAllowed_93 : decode cX2_countAllowed 93 = .ok (.if_icmp .le 11, 3) := by decide +kernel
theorem dX2_countAllowed_96 : decode cX2_countAllowed 96 = .ok (.iload 8, 2) := by decide +kernel
theorem dX2_countAllowed_98 : decode cX2_countAllowed 98 = .ok (.iload 7, 2) := by decide +kernel
theorem dX2_countAllowed_100 : decode cX2_countAllowed 100 = .ok (.isub, 1) := by decide +kernel
theorem dX2_countAllowed_101 : decode cX2_countAllowed 101 = .ok (.goto 8, 3) := by decide +kernel
theorem dX2_countAllowed_104 : decode cX2_countAllowed 104 = .ok (.iload 7, 2) := by decide +kernel
theorem dX2_countAllowed_106 : decode cX2_countAllowed 106 = .ok (.iload 8, 2) := by decide +kernel
theorem dX2_countAllowed_108 : decode cX2_countAllowed 108 = .ok (.isub, 1) := by decide +kernel
theorem dX2_countAllowed_109 : decode cX2_countAllowed 109 = .ok (.istore 9, 2) := by decide +kernel
theorem dX2_countAllowed_111 : decode cX2_countAllowed 111 = .ok (.iload 6, 2) := by decide +kernel
theorem dX2_countAllowed_113 : decode cX2_countAllowed 113 = .ok (.iload 8, 2) := by decide +kernel
theorem dX2_countAllowed_115 : decode cX2_countAllowed 115 = .ok (.ishr, 1) := by decide +kernel
theorem dX2_countAllowed_116 : decode cX2_countAllowed 116 = .ok (.iconst 1, 1) := by decide +kernel
theorem dX2_countAllowed_117 : decode cX2_countAllowed 117 = .ok (.iand, 1) := by decide +kernel
theorem dX2_countAllowed_118 : decode cX2_countAllowed 118 = .ok (.ifCond .ne 37, 3) := by decide +kernel
theorem dX2_countAllowed_121 : decode cX2_countAllowed 121 = .ok (.iload 9, 2) := by decide +kernel
theorem dX2_countAllowed_123 : decode cX2_countAllowed 123 = .ok (.aload_n 1, 1) := by decide +kernel
theorem dX2_countAllowed_124 : decode cX2_countAllowed 124 = .ok (.getfield 112, 3) := by decide +kernel
theorem dX2_countAllowed_127 : decode cX2_countAllowed 127 = .ok (.getfield 139, 3) := by decide +kernel
theorem dX2_countAllowed_130 : decode cX2_countAllowed 130 = .ok (.if_icmp .gt 25, 3) := by decide +kernel
theorem dX2_countAllowed_133 : decode cX2_countAllowed 133 = .ok (.aload_n 0, 1) := by decide +kernel
theorem dX2_countAllowed_134 : decode cX2_countAllowed 134 = .ok (.getfield 31, 3) := by decide +kernel
theorem dX2_countAllowed_137 : decode cX2_countAllowed 137 = .ok (.iload 6, 2) := by decide +kernel
theorem dX2_countAllowed_139 : decode cX2_countAllowed 139 = .ok (.iconst 1, 1) := by decide +kernel
theorem dX2_countAllowed_140 : decode cX2_countAllowed 140 = .ok (.iload 8, 2) := by decide +kernel
theorem dX2_countAllowed_142 : decode cX2_countAllowed 142 = .ok (.ishl, 1) := by decide +kernel
theorem dX2_countAllowed_143 : decode cX2_countAllowed 143 = .ok (.ior, 1) := by decide +kernel
theorem dX2_countAllowed_144 : decode cX2_countAllowed 144 = .ok (.dup2, 1) := by decide +kernel
theorem dX2_countAllowed_145 : decode cX2_countAllowed 145 = .ok (.iaload, 1) := by decide +kernel
theorem dX2_countAllowed_146 : decode cX2_countAllowed 146 = .ok (.aload_n 0, 1) := by decide +kernel
theorem dX2_countAllowed_147 : decode cX2_countAllowed 147 = .ok (.getfield 31, 3) := by decide +kernel
theorem dX2_countAllowed_150 : decode cX2_countAllowed 150 = .ok (.iload 6, 2) := by decide +kernel
theorem dX2_countAllowed_152 : decode cX2_countAllowed 152 = .ok (.iaload, 1) := by decide +kernel
theorem dX2_countAllowed_153 : decode cX2_countAllowed 153 = .ok (.iadd, 1) := by decide +kernel
theorem dX2_countAllowed_154 : decode cX2_countAllowed 154 = .ok (.iastore, 1) := by decide +kernel
theorem dX2_countAllowed_155 : decode cX2_countAllowed 155 = .ok (.iinc 8 1, 3) := by decide +kernel
theorem dX2_countAllowed_158 : decode cX2_countAllowed 158 = .ok (.goto (-76), 3) := by decide +kernel
theorem dX2_countAllowed_161 : decode cX2_countAllowed 161 = .ok (.iinc 6 1, 3) := by decide +kernel
theorem dX2_countAllowed_164 : decode cX2_countAllowed 164 = .ok (.goto (-99), 3) := by decide +kernel
theorem dX2_countAllowed_167 : decode cX2_countAllowed 167 = .ok (.aload_n 0, 1) := by decide +kernel
theorem dX2_countAllowed_168 : decode cX2_countAllowed 168 = .ok (.getfield 31, 3) := by decide +kernel
theorem dX2_countAllowed_171 : decode cX2_countAllowed 171 = .ok (.iload 5, 2) := by decide +kernel
theorem dX2_countAllowed_173 : decode cX2_countAllowed 173 = .ok (.iaload, 1) := by decide +kernel
theorem dX2_countAllowed_174 : decode cX2_countAllowed 174 = .ok (.ireturn, 1) := by decide +kernel
set_option maxRecDepth 20000 in
theorem s_X2_countAllowed_0 {l : Launch} {G : GT} {d : Nat} {Q : AV → AH → Prop} {H : AH} {a0 a1 x2 : Int} (h_r0 : Lay LPla H a0) (h_r1 : Lay LSta H a1) (h : CL l G mX2_lineUp d 0 0 [vR a0, vR a1, vI x2] H (fun r9 H1 => Lay LPla H1 a0 ∧ Lay LSta H1 a1 ∧ ∃ y1 : Int, r9 = vI y1 ∧ (7 ≤ y1 → (-2147483648 ≤ (pw 7) - 1 ∧ (pw 7) - 1 ≤ 2147483647) ∧ AW l G mX2_countAllowed (d + 1) 0 0 Q 32 [vR a0, vR a1, vI x2, vI y1, vI 7, vI ((pw 7) - 1), vI 0, vU, vU, vU] [] 0 0 H1) ∧ (y1 < 7 → (0 ≤ y1 ∧ y1 ≤ 30) ∧ (-2147483648 ≤ (pw y1) - 1 ∧ (pw y1) - 1 ≤ 2147483647) ∧ AW l G mX2_countAllowed (d + 1) 0 0 Q 32 [vR a0, vR a1, vI x2, vI y1, vI y1, vI ((pw y1) - 1), vI 0, vU, vU, vU] [] 0 0 H1))) : AW l G mX2_countAllowed (d + 1) 0 0 Q 0 [vR a0, vR a1, vI x2, vU, vU, vU, vU, vU, vU, vU] [] 0 0 H := by
  refine a_aload_n dX2_countAllowed_0 rfl rfl ?_
  refine a_aload_n dX2_countAllowed_1 rfl rfl ?_
  refine a_iload_n dX2_countAllowed_2 rfl rfl ?_
  refine a_callV dX2_countAllowed_3 cw_X2_countAllowed_3 (as := [vR a1, vI x2]) rfl rfl (kPla_0 h_r0) (Nat.le_refl _) (Nat.le_of_ble_eq_true rfl) (nocov rfl) (Nat.le_of_ble_eq_true rfl) (Nat.le_of_ble_eq_true rfl) (CL.mono h (fun r9 H1 h => ?_))
  obtain ⟨h_r0_1, h_r1_1, y1, e9, h⟩ := h
  rw [e9]
  show AW l G mX2_countAllowed (d + 1) 0 0 Q 6 [vR a0, vR a1, vI x2, vU, vU, vU, vU, vU, vU, vU] [vI y1] 0 0 H1
  refine a_istore_n dX2_countAllowed_6 rfl (Nat.le_of_ble_eq_true rfl) (ls' := [vR a0, vR a1, vI x2, vI y1, vU, vU, vU, vU, vU, vU]) rfl ?_
  refine a_iload_n dX2_countAllowed_7 rfl rfl ?_
  refine a_bipush dX2_countAllowed_8 (by decide) ?_
  refine a_icmp_ge dX2_countAllowed_10 (tgt := 17) rfl (fun c10 => ?_) (fun c10 => ?_)
  · replace h := h.1 c10
    refine a_bipush dX2_countAllowed_17 (by decide) ?_
    refine a_istore dX2_countAllowed_19 (Nat.le_of_ble_eq_true rfl) (ls' := [vR a0, vR a1, vI x2, vI y1, vI 7, vU, vU, vU, vU, vU]) rfl ?_
    refine a_iconst dX2_countAllowed_21 ⟨by decide, by decide⟩ ?_
    refine a_iload dX2_countAllowed_22 rfl ?_
    refine a_ishl dX2_countAllowed_24 (⟨by decide, by decide⟩) ?_
    refine a_iconst dX2_countAllowed_25 ⟨by decide, by decide⟩ ?_
    obtain ⟨q26_0, h⟩ := h
    refine a_isub dX2_countAllowed_26 q26_0 ?_
    refine a_istore dX2_countAllowed_27 (Nat.le_of_ble_eq_true rfl) (ls' := [vR a0, vR a1, vI x2, vI y1, vI 7, vI ((pw 7) - 1), vU, vU, vU, vU]) rfl ?_
    refine a_iconst dX2_countAllowed_29 ⟨by decide, by decide⟩ ?_
    refine a_istore dX2_countAllowed_30 (Nat.le_of_ble_eq_true rfl) (ls' := [vR a0, vR a1, vI x2, vI y1, vI 7, vI ((pw 7) - 1), vI 0, vU, vU, vU]) rfl ?_
    exact h
  · replace h := h.2 c10
    refine a_iload_n dX2_countAllowed_13 rfl rfl ?_
    refine a_goto dX2_countAllowed_14 (tgt := 19) rfl ?_
    refine a_istore dX2_countAllowed_19 (Nat.le_of_ble_eq_true rfl) (ls' := [vR a0, vR a1, vI x2, vI y1, vI y1, vU, vU, vU, vU, vU]) rfl ?_
    refine a_iconst dX2_countAllowed_21 ⟨by decide, by decide⟩ ?_
    refine a_iload dX2_countAllowed_22 rfl ?_
    obtain ⟨q24_0, h⟩ := h
    refine a_ishl dX2_countAllowed_24 q24_0 ?_
    refine a_iconst dX2_countAllowed_25 ⟨by decide, by decide⟩ ?_
    obtain ⟨q26_0, h⟩ := h
    refine a_isub dX2_countAllowed_26 q26_0 ?_
    refine a_istore dX2_countAllowed_27 (Nat.le_of_ble_eq_true rfl) (ls' := [vR a0, vR a1, vI x2, vI y1, vI y1, vI ((pw y1) - 1), vU, vU, vU, vU]) rfl ?_
    refine a_iconst dX2_countAllowed_29 ⟨by decide, by decide⟩ ?_
    refine a_istore dX2_countAllowed_30 (Nat.le_of_ble_eq_true rfl) (ls' := [vR a0, vR a1, vI x2, vI y1, vI y1, vI ((pw y1) - 1), vI 0, vU, vU, vU]) rfl ?_
    exact h

set_option maxRecDepth 20000 in
theorem s_X2_countAllowed_32 {l : Launch} {G : GT} {d : Nat} {Q : AV → AH → Prop} {H : AH} {a0 a1 x2 x3 x4 x5 x6 : Int} (h_r0 : Lay LPla H a0) (h_r1 : Lay LSta H a1) (h : (x5 < x6 → AW l G mX2_countAllowed (d + 1) 0 0 Q 65 [vR a0, vR a1, vI x2, vI x3, vI x4, vI x5, vI 0, vU, vU, vU] [] 0 0 H) ∧ (x6 ≤ x5 → (¬ x6 = 0 → (0 ≤ x6 ∧ x6 < 128) ∧ ∀ H1 : AH, H1 = hs H (a0 + 16) x6 0 → (-2147483648 ≤ x6 + 1 ∧ x6 + 1 ≤ 2147483647) ∧ AW l G mX2_countAllowed (d + 1) 0 0 Q 32 [vR a0, vR a1, vI x2, vI x3, vI x4, vI x5, vI (x6 + 1), vU, vU, vU] [] 0 0 H1) ∧ (x6 = 0 → (0 ≤ x6 ∧ x6 < 128) ∧ ∀ H1 : AH, H1 = hs H (a0 + 16) x6 1 → (-2147483648 ≤ x6 + 1 ∧ x6 + 1 ≤ 2147483647) ∧ AW l G mX2_countAllowed (d + 1) 0 0 Q 32 [vR a0, vR a1, vI x2, vI x3, vI x4, vI x5, vI (x6 + 1), vU, vU, vU] [] 0 0 H1))) : AW l G mX2_countAllowed (d + 1) 0 0 Q 32 [vR a0, vR a1, vI x2, vI x3, vI x4, vI x5, vI x6, vU, vU, vU] [] 0 0 H := by
  refine a_iload dX2_countAllowed_32 rfl ?_
  refine a_iload dX2_countAllowed_34 rfl ?_
  refine a_icmp_gt dX2_countAllowed_36 (tgt := 62) rfl (fun c36 => ?_) (fun c36 => ?_)
  · replace h := h.1 c36
    refine a_iconst dX2_countAllowed_62 ⟨by decide, by decide⟩ ?_
    refine a_istore dX2_countAllowed_63 (Nat.le_of_ble_eq_true rfl) (ls' := [vR a0, vR a1, vI x2, vI x3, vI x4, vI x5, vI 0, vU, vU, vU]) rfl ?_
    exact h
  · replace h := h.2 c36
    refine a_aload_n dX2_countAllowed_39 rfl rfl ?_
    refine a_getR dX2_countAllowed_40 fw_RX2_31 rfl rfl (kPla_0 h_r0) (rPla_0_5 h_r0) ?_
    refine a_iload dX2_countAllowed_43 rfl ?_
    refine a_iload dX2_countAllowed_45 rfl ?_
    refine a_if_ne dX2_countAllowed_47 (tgt := 54) rfl (fun c47 => ?_) (fun c47 => ?_)
    · replace h := h.1 c47
      refine a_iconst dX2_countAllowed_54 ⟨by decide, by decide⟩ ?_
      obtain ⟨q55_0, h⟩ := h
      refine b_iast dX2_countAllowed_55 (kPla_16 h_r0) (nPla_16 h_r0) q55_0 ?_
      have h_r0_1 := Lay.wr h_r0 ok_Pla (nrf_arr (kPla_16 h_r0) (by decide) (by decide)) (i := x6) (x := 0)
      have h_r1_1 := Lay.wr h_r1 ok_Sta (nrf_arr (kPla_16 h_r0) (by decide) (by decide)) (i := x6) (x := 0)
      generalize e_H1 : hs H (a0 + 16) x6 0 = H1 at h_r0_1 h_r1_1 ⊢
      replace h := h H1 e_H1.symm
      obtain ⟨q56_0, h⟩ := h
      refine a_iinc dX2_countAllowed_56 rfl (Nat.le_of_ble_eq_true rfl) (by decide) q56_0 (ls' := [vR a0, vR a1, vI x2, vI x3, vI x4, vI x5, vI (x6 + 1), vU, vU, vU]) rfl ?_
      refine a_goto dX2_countAllowed_59 (tgt := 32) rfl ?_
      exact h
    · replace h := h.2 c47
      refine a_iconst dX2_countAllowed_50 ⟨by decide, by decide⟩ ?_
      refine a_goto dX2_countAllowed_51 (tgt := 55) rfl ?_
      obtain ⟨q55_0, h⟩ := h
      refine b_iast dX2_countAllowed_55 (kPla_16 h_r0) (nPla_16 h_r0) q55_0 ?_
      have h_r0_1 := Lay.wr h_r0 ok_Pla (nrf_arr (kPla_16 h_r0) (by decide) (by decide)) (i := x6) (x := 1)
      have h_r1_1 := Lay.wr h_r1 ok_Sta (nrf_arr (kPla_16 h_r0) (by decide) (by decide)) (i := x6) (x := 1)
      generalize e_H1 : hs H (a0 + 16) x6 1 = H1 at h_r0_1 h_r1_1 ⊢
      replace h := h H1 e_H1.symm
      obtain ⟨q56_0, h⟩ := h
      refine a_iinc dX2_countAllowed_56 rfl (Nat.le_of_ble_eq_true rfl) (by decide) q56_0 (ls' := [vR a0, vR a1, vI x2, vI x3, vI x4, vI x5, vI (x6 + 1), vU, vU, vU]) rfl ?_
      refine a_goto dX2_countAllowed_59 (tgt := 32) rfl ?_
      exact h

set_option maxRecDepth 20000 in
theorem s_X2_countAllowed_65 {l : Launch} {G : GT} {d : Nat} {Q : AV → AH → Prop} {H : AH} {a0 a1 x2 x3 x4 x5 x6 : Int} (h_r0 : Lay LPla H a0) (h_r1 : Lay LSta H a1) (h : (x5 ≤ x6 → (0 ≤ x5 ∧ x5 < 128) ∧ Q (vI (hg H (a0 + 16) x5)) H) ∧ (x6 < x5 → (0 ≤ x6 ∧ x6 < 128) ∧ AW l G mX2_countAllowed (d + 1) 0 0 Q 82 [vR a0, vR a1, vI x2, vI x3, vI x4, vI x5, vI x6, vI (pcI x6), vI 0, vU] [] 0 0 H)) : AW l G mX2_countAllowed (d + 1) 0 0 Q 65 [vR a0, vR a1, vI x2, vI x3, vI x4, vI x5, vI x6, vU, vU, vU] [] 0 0 H := by
  refine a_iload dX2_countAllowed_65 rfl ?_
  refine a_iload dX2_countAllowed_67 rfl ?_
  refine a_icmp_ge dX2_countAllowed_69 (tgt := 167) rfl (fun c69 => ?_) (fun c69 => ?_)
  · replace h := h.1 c69
    refine a_aload_n dX2_countAllowed_167 rfl rfl ?_
    refine a_getR dX2_countAllowed_168 fw_RX2_31 rfl rfl (kPla_0 h_r0) (rPla_0_5 h_r0) ?_
    refine a_iload dX2_countAllowed_171 rfl ?_
    obtain ⟨q173_0, h⟩ := h
    refine b_iald dX2_countAllowed_173 (kPla_16 h_r0) (nPla_16 h_r0) q173_0 ?_
    exact a_iret dX2_countAllowed_174 rfl (Nat.le_of_ble_eq_true rfl) (Nat.le_of_ble_eq_true rfl) h
  · replace h := h.2 c69
    refine a_iload dX2_countAllowed_72 rfl ?_
    obtain ⟨q74_0, h⟩ := h
    refine a_callS dX2_countAllowed_74 cw_X2_countAllowed_74 (as := [vI x6]) rfl rfl (Nat.le_refl _) (Nat.le_of_ble_eq_true rfl) (nocov rfl) (Nat.le_of_ble_eq_true rfl) (Nat.le_of_ble_eq_true rfl) (CL.mono (q_bitCount  q74_0) (fun r9 H9 h9 => ?_))
    rw [h9.1, h9.2]
    show AW l G mX2_countAllowed (d + 1) 0 0 Q 77 [vR a0, vR a1, vI x2, vI x3, vI x4, vI x5, vI x6, vU, vU, vU] [vI (pcI x6)] 0 0 H
    refine a_istore dX2_countAllowed_77 (Nat.le_of_ble_eq_true rfl) (ls' := [vR a0, vR a1, vI x2, vI x3, vI x4, vI x5, vI x6, vI (pcI x6), vU, vU]) rfl ?_
    refine a_iconst dX2_countAllowed_79 ⟨by decide, by decide⟩ ?_
    refine a_istore dX2_countAllowed_80 (Nat.le_of_ble_eq_true rfl) (ls' := [vR a0, vR a1, vI x2, vI x3, vI x4, vI x5, vI x6, vI (pcI x6), vI 0, vU]) rfl ?_
    exact h

set_option maxRecDepth 20000 in
theorem s_X2_countAllowed_82 {l : Launch} {G : GT} {d : Nat} {Q : AV → AH → Prop} {H : AH} {a0 a1 x2 x3 x4 x5 x6 x7 x8 : Int} (h_r0 : Lay LPla H a0) (h_r1 : Lay LSta H a1) (h : (x4 ≤ x8 → (-2147483648 ≤ x6 + 1 ∧ x6 + 1 ≤ 2147483647) ∧ AW l G mX2_countAllowed (d + 1) 0 0 Q 65 [vR a0, vR a1, vI x2, vI x3, vI x4, vI x5, vI (x6 + 1), vU, vU, vU] [] 0 0 H) ∧ (x8 < x4 → (x8 ≤ x7 → (-2147483648 ≤ x7 - x8 ∧ x7 - x8 ≤ 2147483647) ∧ (0 ≤ x8 ∧ x8 ≤ 31) ∧ (¬ ((shr x6 x8) % 2) = 0 → (-2147483648 ≤ x8 + 1 ∧ x8 + 1 ≤ 2147483647) ∧ AW l G mX2_countAllowed (d + 1) 0 0 Q 82 [vR a0, vR a1, vI x2, vI x3, vI x4, vI x5, vI x6, vI x7, vI (x8 + 1), vU] [] 0 0 H) ∧ (((shr x6 x8) % 2) = 0 → ((hg H (a1 + 1) 2) < (x7 - x8) → (-2147483648 ≤ x8 + 1 ∧ x8 + 1 ≤ 2147483647) ∧ AW l G mX2_countAllowed (d + 1) 0 0 Q 82 [vR a0, vR a1, vI x2, vI x3, vI x4, vI x5, vI x6, vI x7, vI (x8 + 1), vU] [] 0 0 H) ∧ ((x7 - x8) ≤ (hg H (a1 + 1) 2) → (0 ≤ x8 ∧ x8 ≤ 30) ∧ (0 ≤ x6 ∧ 0 ≤ (pw x8)) ∧ (0 ≤ (ior x6 (pw x8)) ∧ (ior x6 (pw x8)) < 128) ∧ (0 ≤ x6 ∧ x6 < 128) ∧ (-2147483648 ≤ (hg H (a0 + 16) (ior x6 (pw x8))) + (hg H (a0 + 16) x6) ∧ (hg H (a0 + 16) (ior x6 (pw x8))) + (hg H (a0 + 16) x6) ≤ 2147483647) ∧ ∀ H1 : AH, H1 = hs H (a0 + 16) (ior x6 (pw x8)) ((hg H (a0 + 16) (ior x6 (pw x8))) + (hg H (a0 + 16) x6)) → (-2147483648 ≤ x8 + 1 ∧ x8 + 1 ≤ 2147483647) ∧ AW l G mX2_countAllowed (d + 1) 0 0 Q 82 [vR a0, vR a1, vI x2, vI x3, vI x4, vI x5, vI x6, vI x7, vI (x8 + 1), vU] [] 0 0 H1))) ∧ (x7 < x8 → (-2147483648 ≤ x8 - x7 ∧ x8 - x7 ≤ 2147483647) ∧ (0 ≤ x8 ∧ x8 ≤ 31) ∧ (¬ ((shr x6 x8) % 2) = 0 → (-2147483648 ≤ x8 + 1 ∧ x8 + 1 ≤ 2147483647) ∧ AW l G mX2_countAllowed (d + 1) 0 0 Q 82 [vR a0, vR a1, vI x2, vI x3, vI x4, vI x5, vI x6, vI x7, vI (x8 + 1), vU] [] 0 0 H) ∧ (((shr x6 x8) % 2) = 0 → ((hg H (a1 + 1) 2) < (x8 - x7) → (-2147483648 ≤ x8 + 1 ∧ x8 + 1 ≤ 2147483647) ∧ AW l G mX2_countAllowed (d + 1) 0 0 Q 82 [vR a0, vR a1, vI x2, vI x3, vI x4, vI x5, vI x6, vI x7, vI (x8 + 1), vU] [] 0 0 H) ∧ ((x8 - x7) ≤ (hg H (a1 + 1) 2) → (0 ≤ x8 ∧ x8 ≤ 30) ∧ (0 ≤ x6 ∧ 0 ≤ (pw x8)) ∧ (0 ≤ (ior x6 (pw x8)) ∧ (ior x6 (pw x8)) < 128) ∧ (0 ≤ x6 ∧ x6 < 128) ∧ (-2147483648 ≤ (hg H (a0 + 16) (ior x6 (pw x8))) + (hg H (a0 + 16) x6) ∧ (hg H (a0 + 16) (ior x6 (pw x8))) + (hg H (a0 + 16) x6) ≤ 2147483647) ∧ ∀ H1 : AH, H1 = hs H (a0 + 16) (ior x6 (pw x8)) ((hg H (a0 + 16) (ior x6 (pw x8))) + (hg H (a0 + 16) x6)) → (-2147483648 ≤ x8 + 1 ∧ x8 + 1 ≤ 2147483647) ∧ AW l G mX2_countAllowed (d + 1) 0 0 Q 82 [vR a0, vR a1, vI x2, vI x3, vI x4, vI x5, vI x6, vI x7, vI (x8 + 1), vU] [] 0 0 H1))))) : AW l G mX2_countAllowed (d + 1) 0 0 Q 82 [vR a0, vR a1, vI x2, vI x3, vI x4, vI x5, vI x6, vI x7, vI x8, vU] [] 0 0 H := by
  refine a_iload dX2_countAllowed_82 rfl ?_
  refine a_iload dX2_countAllowed_84 rfl ?_
  refine a_icmp_ge dX2_countAllowed_86 (tgt := 161) rfl (fun c86 => ?_) (fun c86 => ?_)
  · replace h := h.1 c86
    obtain ⟨q161_0, h⟩ := h
    refine a_iinc dX2_countAllowed_161 rfl (Nat.le_of_ble_eq_true rfl) (by decide) q161_0 (ls' := [vR a0, vR a1, vI x2, vI x3, vI x4, vI x5, vI (x6 + 1), vI x7, vI x8, vU]) rfl ?_
    refine a_goto dX2_countAllowed_164 (tgt := 65) rfl ?_
    exact a_weak (wk_e (wk_e (wk_e (wk_e (wk_e (wk_e (wk_e (wk_u (wk_u (wk_u wk_n)))))))))) h
  · replace h := h.2 c86
    refine a_iload dX2_countAllowed_89 rfl ?_
    refine a_iload dX2_countAllowed_91 rfl ?_
    refine a_icmp_le dX2_countAllowed_93 (tgt := 104) rfl (fun c93 => ?_) (fun c93 => ?_)
    · replace h := h.1 c93
      refine a_iload dX2_countAllowed_104 rfl ?_
      refine a_iload dX2_countAllowed_106 rfl ?_
      obtain ⟨q108_0, h⟩ := h
      refine a_isub dX2_countAllowed_108 q108_0 ?_
      refine a_istore dX2_countAllowed_109 (Nat.le_of_ble_eq_true rfl) (ls' := [vR a0, vR a1, vI x2, vI x3, vI x4, vI x5, vI x6, vI x7, vI x8, vI (x7 - x8)]) rfl ?_
      refine a_iload dX2_countAllowed_111 rfl ?_
      refine a_iload dX2_countAllowed_113 rfl ?_
      obtain ⟨q115_0, h⟩ := h
      refine a_ishr dX2_countAllowed_115 q115_0 ?_
      refine a_iconst dX2_countAllowed_116 ⟨by decide, by decide⟩ ?_
      refine a_iand1 dX2_countAllowed_117 ?_
      refine a_if_ne dX2_countAllowed_118 (tgt := 155) rfl (fun c118 => ?_) (fun c118 => ?_)
      · replace h := h.1 c118
        obtain ⟨q155_0, h⟩ := h
        refine a_iinc dX2_countAllowed_155 rfl (Nat.le_of_ble_eq_true rfl) (by decide) q155_0 (ls' := [vR a0, vR a1, vI x2, vI x3, vI x4, vI x5, vI x6, vI x7, vI (x8 + 1), vI (x7 - x8)]) rfl ?_
        refine a_goto dX2_countAllowed_158 (tgt := 82) rfl ?_
        exact a_weak (wk_e (wk_e (wk_e (wk_e (wk_e (wk_e (wk_e (wk_e (wk_e (wk_u wk_n)))))))))) h
      · replace h := h.2 c118
        refine a_iload dX2_countAllowed_121 rfl ?_
        refine a_aload_n dX2_countAllowed_123 rfl rfl ?_
        refine a_getR dX2_countAllowed_124 fw_RX2_112 rfl rfl (kSta_0 h_r1) (rSta_0_0 h_r1) ?_
        refine a_getI dX2_countAllowed_127 fw_RX2_139 rfl rfl (kSta_1 h_r1) ?_
        refine a_icmp_gt dX2_countAllowed_130 (tgt := 155) rfl (fun c130 => ?_) (fun c130 => ?_)
        · replace h := h.1 c130
          obtain ⟨q155_0, h⟩ := h
          refine a_iinc dX2_countAllowed_155 rfl (Nat.le_of_ble_eq_true rfl) (by decide) q155_0 (ls' := [vR a0, vR a1, vI x2, vI x3, vI x4, vI x5, vI x6, vI x7, vI (x8 + 1), vI (x7 - x8)]) rfl ?_
          refine a_goto dX2_countAllowed_158 (tgt := 82) rfl ?_
          exact a_weak (wk_e (wk_e (wk_e (wk_e (wk_e (wk_e (wk_e (wk_e (wk_e (wk_u wk_n)))))))))) h
        · replace h := h.2 c130
          refine a_aload_n dX2_countAllowed_133 rfl rfl ?_
          refine a_getR dX2_countAllowed_134 fw_RX2_31 rfl rfl (kPla_0 h_r0) (rPla_0_5 h_r0) ?_
          refine a_iload dX2_countAllowed_137 rfl ?_
          refine a_iconst dX2_countAllowed_139 ⟨by decide, by decide⟩ ?_
          refine a_iload dX2_countAllowed_140 rfl ?_
          obtain ⟨q142_0, h⟩ := h
          refine a_ishl dX2_countAllowed_142 q142_0 ?_
          obtain ⟨q143_0, h⟩ := h
          refine a_ior dX2_countAllowed_143 q143_0 ?_
          refine a_dup2 dX2_countAllowed_144 rfl rfl ?_
          obtain ⟨q145_0, h⟩ := h
          refine b_iald dX2_countAllowed_145 (kPla_16 h_r0) (nPla_16 h_r0) q145_0 ?_
          refine a_aload_n dX2_countAllowed_146 rfl rfl ?_
          refine a_getR dX2_countAllowed_147 fw_RX2_31 rfl rfl (kPla_0 h_r0) (rPla_0_5 h_r0) ?_
          refine a_iload dX2_countAllowed_150 rfl ?_
          obtain ⟨q152_0, h⟩ := h
          refine b_iald dX2_countAllowed_152 (kPla_16 h_r0) (nPla_16 h_r0) q152_0 ?_
          obtain ⟨q153_0, h⟩ := h
          refine a_iadd dX2_countAllowed_153 q153_0 ?_
          refine b_iast dX2_countAllowed_154 (kPla_16 h_r0) (nPla_16 h_r0) q145_0 ?_
          have h_r0_1 := Lay.wr h_r0 ok_Pla (nrf_arr (kPla_16 h_r0) (by decide) (by decide)) (i := (ior x6 (pw x8))) (x := ((hg H (a0 + 16) (ior x6 (pw x8))) + (hg H (a0 + 16) x6)))
          have h_r1_1 := Lay.wr h_r1 ok_Sta (nrf_arr (kPla_16 h_r0) (by decide) (by decide)) (i := (ior x6 (pw x8))) (x := ((hg H (a0 + 16) (ior x6 (pw x8))) + (hg H (a0 + 16) x6)))
          generalize e_H1 : hs H (a0 + 16) (ior x6 (pw x8)) ((hg H (a0 + 16) (ior x6 (pw x8))) + (hg H (a0 + 16) x6)) = H1 at h_r0_1 h_r1_1 ⊢
          replace h := h H1 e_H1.symm
          obtain ⟨q155_0, h⟩ := h
          refine a_iinc dX2_countAllowed_155 rfl (Nat.le_of_ble_eq_true rfl) (by decide) q155_0 (ls' := [vR a0, vR a1, vI x2, vI x3, vI x4, vI x5, vI x6, vI x7, vI (x8 + 1), vI (x7 - x8)]) rfl ?_
          refine a_goto dX2_countAllowed_158 (tgt := 82) rfl ?_
          exact a_weak (wk_e (wk_e (wk_e (wk_e (wk_e (wk_e (wk_e (wk_e (wk_e (wk_u wk_n)))))))))) h
    · replace h := h.2 c93
      refine a_iload dX2_countAllowed_96 rfl ?_
      refine a_iload dX2_countAllowed_98 rfl ?_
      obtain ⟨q100_0, h⟩ := h
      refine a_isub dX2_countAllowed_100 q100_0 ?_
      refine a_goto dX2_countAllowed_101 (tgt := 109) rfl ?_
      refine a_istore dX2_countAllowed_109 (Nat.le_of_ble_eq_true rfl) (ls' := [vR a0, vR a1, vI x2, vI x3, vI x4, vI x5, vI x6, vI x7, vI x8, vI (x8 - x7)]) rfl ?_
      refine a_iload dX2_countAllowed_111 rfl ?_
      refine a_iload dX2_countAllowed_113 rfl ?_
      obtain ⟨q115_0, h⟩ := h
      refine a_ishr dX2_countAllowed_115 q115_0 ?_
      refine a_iconst dX2_countAllowed_116 ⟨by decide, by decide⟩ ?_
      refine a_iand1 dX2_countAllowed_117 ?_
      refine a_if_ne dX2_countAllowed_118 (tgt := 155) rfl (fun c118 => ?_) (fun c118 => ?_)
      · replace h := h.1 c118
        obtain ⟨q155_0, h⟩ := h
        refine a_iinc dX2_countAllowed_155 rfl (Nat.le_of_ble_eq_true rfl) (by decide) q155_0 (ls' := [vR a0, vR a1, vI x2, vI x3, vI x4, vI x5, vI x6, vI x7, vI (x8 + 1), vI (x8 - x7)]) rfl ?_
        refine a_goto dX2_countAllowed_158 (tgt := 82) rfl ?_
        exact a_weak (wk_e (wk_e (wk_e (wk_e (wk_e (wk_e (wk_e (wk_e (wk_e (wk_u wk_n)))))))))) h
      · replace h := h.2 c118
        refine a_iload dX2_countAllowed_121 rfl ?_
        refine a_aload_n dX2_countAllowed_123 rfl rfl ?_
        refine a_getR dX2_countAllowed_124 fw_RX2_112 rfl rfl (kSta_0 h_r1) (rSta_0_0 h_r1) ?_
        refine a_getI dX2_countAllowed_127 fw_RX2_139 rfl rfl (kSta_1 h_r1) ?_
        refine a_icmp_gt dX2_countAllowed_130 (tgt := 155) rfl (fun c130 => ?_) (fun c130 => ?_)
        · replace h := h.1 c130
          obtain ⟨q155_0, h⟩ := h
          refine a_iinc dX2_countAllowed_155 rfl (Nat.le_of_ble_eq_true rfl) (by decide) q155_0 (ls' := [vR a0, vR a1, vI x2, vI x3, vI x4, vI x5, vI x6, vI x7, vI (x8 + 1), vI (x8 - x7)]) rfl ?_
          refine a_goto dX2_countAllowed_158 (tgt := 82) rfl ?_
          exact a_weak (wk_e (wk_e (wk_e (wk_e (wk_e (wk_e (wk_e (wk_e (wk_e (wk_u wk_n)))))))))) h
        · replace h := h.2 c130
          refine a_aload_n dX2_countAllowed_133 rfl rfl ?_
          refine a_getR dX2_countAllowed_134 fw_RX2_31 rfl rfl (kPla_0 h_r0) (rPla_0_5 h_r0) ?_
          refine a_iload dX2_countAllowed_137 rfl ?_
          refine a_iconst dX2_countAllowed_139 ⟨by decide, by decide⟩ ?_
          refine a_iload dX2_countAllowed_140 rfl ?_
          obtain ⟨q142_0, h⟩ := h
          refine a_ishl dX2_countAllowed_142 q142_0 ?_
          obtain ⟨q143_0, h⟩ := h
          refine a_ior dX2_countAllowed_143 q143_0 ?_
          refine a_dup2 dX2_countAllowed_144 rfl rfl ?_
          obtain ⟨q145_0, h⟩ := h
          refine b_iald dX2_countAllowed_145 (kPla_16 h_r0) (nPla_16 h_r0) q145_0 ?_
          refine a_aload_n dX2_countAllowed_146 rfl rfl ?_
          refine a_getR dX2_countAllowed_147 fw_RX2_31 rfl rfl (kPla_0 h_r0) (rPla_0_5 h_r0) ?_
          refine a_iload dX2_countAllowed_150 rfl ?_
          obtain ⟨q152_0, h⟩ := h
          refine b_iald dX2_countAllowed_152 (kPla_16 h_r0) (nPla_16 h_r0) q152_0 ?_
          obtain ⟨q153_0, h⟩ := h
          refine a_iadd dX2_countAllowed_153 q153_0 ?_
          refine b_iast dX2_countAllowed_154 (kPla_16 h_r0) (nPla_16 h_r0) q145_0 ?_
          have h_r0_1 := Lay.wr h_r0 ok_Pla (nrf_arr (kPla_16 h_r0) (by decide) (by decide)) (i := (ior x6 (pw x8))) (x := ((hg H (a0 + 16) (ior x6 (pw x8))) + (hg H (a0 + 16) x6)))
          have h_r1_1 := Lay.wr h_r1 ok_Sta (nrf_arr (kPla_16 h_r0) (by decide) (by decide)) (i := (ior x6 (pw x8))) (x := ((hg H (a0 + 16) (ior x6 (pw x8))) + (hg H (a0 + 16) x6)))
          generalize e_H1 : hs H (a0 + 16) (ior x6 (pw x8)) ((hg H (a0 + 16) (ior x6 (pw x8))) + (hg H (a0 + 16) x6)) = H1 at h_r0_1 h_r1_1 ⊢
          replace h := h H1 e_H1.symm
          obtain ⟨q155_0, h⟩ := h
          refine a_iinc dX2_countAllowed_155 rfl (Nat.le_of_ble_eq_true rfl) (by decide) q155_0 (ls' := [vR a0, vR a1, vI x2, vI x3, vI x4, vI x5, vI x6, vI x7, vI (x8 + 1), vI (x8 - x7)]) rfl ?_
          refine a_goto dX2_countAllowed_158 (tgt := 82) rfl ?_
          exact a_weak (wk_e (wk_e (wk_e (wk_e (wk_e (wk_e (wk_e (wk_e (wk_e (wk_u wk_n)))))))))) h


